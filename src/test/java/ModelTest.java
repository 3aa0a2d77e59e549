import java.util.NoSuchElementException;
import java.util.Random;
import java.util.function.LongSupplier;

/** Runs of calls by draws, on the class and on the model: each answer must be the same. */
public final class ModelTest {
    private static final long THROWS = Long.MIN_VALUE + 7;
    private static int wrong = 0;
    private static long calls = 0;
    private static long thrown = 0;

    private final Random random;
    private final LastWord x = new LastWord();
    private Model m = new Model();
    private final Model[] marks = new Model[4];
    private String text = "";
    private final StringBuilder run = new StringBuilder();

    private ModelTest(long seed) {
        random = new Random(seed);
    }

    private static long answer(LongSupplier call) {
        try {
            return call.getAsLong();
        } catch (NoSuchElementException e) {
            return THROWS;
        }
    }

    private void same(String call, LongSupplier got, LongSupplier due) {
        long g;
        try {
            g = answer(got);
        } catch (RuntimeException e) {
            g = THROWS + 1;
            e.printStackTrace();
        }
        long d = answer(due);
        calls++;
        thrown += d == THROWS ? 1 : 0;
        run.append(call).append('\n');
        if (g != d) {
            wrong++;
            if (wrong < 5) {
                System.out.println("village: " + text + "\n" + run + "answered " + g + ", due is " + d);
            }
        }
    }

    private int any(int least, int most) {
        return random.nextInt(12) == 0 ? (random.nextBoolean() ? least - 1 : most + 1)
                : least + random.nextInt(most - least + 1);
    }

    private int anySpring() {
        return any(0, Math.max(0, m.springs - 1));
    }

    private int anyEarly() {
        return any(0, Math.max(0, Math.min(6, m.springs - 1)));
    }

    private int anySort() {
        return any(0, Math.max(0, m.sorts.size() - 1));
    }

    private int anyThing() {
        return any(0, Math.max(0, m.things.size() - 1));
    }

    private int anyStands() {
        for (int i = 0; i < 40; i++) {
            int stands = random.nextInt(27);
            if (m.canStand(stands)) {
                return random.nextInt(12) == 0 ? any(0, 26) : stands;
            }
        }
        return 0;
    }

    private int anyThen(int spring, int stands) {
        if (!m.isSpring(spring) || !m.canStand(stands) || random.nextInt(8) == 0) {
            return anyStands();
        }
        var acts = m.acts(spring, stands);
        return acts.get(random.nextInt(acts.size()));
    }

    private void tellVillage(boolean large) {
        text = new VillageTexts(random).whole(large);
        run.setLength(0);
        try {
            m = ModelReader.read(text);
        } catch (ModelReader.Fault e) {
            throw new IllegalStateException("a whole text has fault " + e.code + ": " + text);
        }
        same("village()", () -> Tape.village(x, text), () -> 0);
    }

    private void change() {
        int s = any(0, 15);
        int t = random.nextInt(4) == 0 ? -1 : anyThing();
        int v = any(0, 2);
        int k = anySort();
        boolean yes = random.nextBoolean();
        switch (random.nextInt(8)) {
            case 0:
            case 1:
                same("ask(" + s + ", " + t + ")", () -> x.ask(s, t) ? 1 : 0, () -> m.ask(s, t) ? 1 : 0);
                break;
            case 2:
            case 3:
                same("pledge(" + s + ", " + t + ", " + v + ")", () -> x.pledge(s, t, v) ? 1 : 0,
                        () -> m.pledge(s, t, v) ? 1 : 0);
                break;
            case 4:
                same("stone(" + t + ", " + yes + ")", () -> x.stone(t, yes) ? 1 : 0, () -> m.stone(t, yes) ? 1 : 0);
                break;
            case 5:
                int mark = any(0, 3);
                same("mark(" + mark + ", " + yes + ")", () -> x.mark(mark, yes) ? 1 : 0, () -> mark(mark, yes));
                break;
            case 6:
                if (random.nextInt(3) == 0) {
                    same("clear()", () -> x.clear() ? 1 : 0, () -> m.clear() ? 1 : 0);
                }
                break;
            default:
                int after = m.rows.size();
                int drawn = random.nextInt(8) == 0 ? -1 : k;
                int came = after < 16 && m.comes[after] != Model.UNTOLD && random.nextInt(6) > 0 ? m.comes[after] : drawn;
                int act = came == -1 && random.nextInt(6) > 0 ? -1 : t;
                same("row(" + came + ", " + act + ", " + v + ")", () -> x.row(came, act, v), () -> m.row(came, act, v));
                break;
        }
    }

    private int mark(int mark, boolean back) {
        if (mark < 0 || mark > 3 || back && marks[mark] == null) {
            return 0;
        }
        if (back) {
            m = marks[mark].copy();
        } else {
            marks[mark] = m.copy();
        }
        return 1;
    }

    private void look() {
        int s = anySpring();
        int k = anySort();
        int stands = anyStands();
        int what = any(0, 1);
        int t = anyThing();
        int v = any(0, 2);
        boolean yes = random.nextBoolean();
        switch (random.nextInt(8)) {
            case 0:
                int w3 = any(0, 3);
                same("thing(" + t + ", " + w3 + ")", () -> x.thing(t, w3), () -> m.thing(t, w3));
                break;
            case 1:
                int age = any(0, 5);
                int any = any(0, 15);
                same("worth(" + k + ", " + stands + ", " + age + ", " + any + ")", () -> x.worth(k, stands, age, any),
                        () -> m.worth(k, stands, age, any));
                break;
            case 2:
                same("may(" + s + ", " + stands + ", " + t + ", " + v + ")", () -> x.may(s, stands, t, v),
                        () -> m.may(s, stands, t, v));
                break;
            case 3:
                same("chooses(" + s + ", " + k + ", " + stands + ", " + yes + ")", () -> x.chooses(s, k, stands, yes),
                        () -> m.chooses(s, k, stands, yes));
                break;
            case 4:
                same("value(" + s + ", " + k + ", " + stands + ", " + what + ")", () -> x.value(s, k, stands, what),
                        () -> m.value(s, k, stands, what));
                break;
            case 5:
                int w11 = any(0, 11);
                same("count(" + w11 + ")", () -> x.count(w11), () -> m.count(w11));
                break;
            case 6:
                same("settled(" + stands + ")", () -> x.settled(stands), () -> m.settled(stands));
                break;
            default:
                int e = anyEarly();
                same("odds(" + e + ", " + stands + ", " + what + ")", () -> x.odds(e, stands, what),
                        () -> m.odds(e, stands, what));
                same("stir(" + e + ", " + what + ")", () -> x.stir(e, what), () -> m.stir(e, what));
                break;
        }
    }

    private void weigh() {
        int s = anySpring();
        int e = anyEarly();
        int k = anySort();
        int stands = anyStands();
        int then = anyThen(s, stands);
        int other = anySort();
        int age = any(1, Math.max(1, m.life - 1));
        int what = any(0, 1);
        int w2 = any(0, 2);
        int w4 = any(0, 4);
        String act = "(" + s + ", " + k + ", " + stands + ", " + then + ", ";
        switch (random.nextInt(9)) {
            case 0:
                same("price" + act + what + ")", () -> x.price(s, k, stands, then, what),
                        () -> m.price(s, k, stands, then, what));
                break;
            case 1:
                same("gain" + act + other + ", " + age + ", " + what + ")",
                        () -> x.gain(s, k, stands, then, other, age, what),
                        () -> m.gain(s, k, stands, then, other, age, what));
                break;
            case 2:
                same("lets" + act + other + ", " + age + ", " + what + ")",
                        () -> x.lets(s, k, stands, then, other, age, what),
                        () -> m.lets(s, k, stands, then, other, age, what));
                break;
            case 3:
                same("present(" + s + ", " + k + ", " + stands + ", " + w4 + ")", () -> x.present(s, k, stands, w4),
                        () -> m.present(s, k, stands, w4));
                break;
            case 4:
                same("hopes(" + e + ", " + k + ", " + what + ")", () -> x.hopes(e, k, what),
                        () -> m.hopes(e, k, what));
                break;
            case 5:
                same("vow(" + e + ", " + k + ", " + w2 + ")", () -> x.vow(e, k, w2), () -> m.vow(e, k, w2));
                break;
            case 6:
                int t = anyThing();
                same("bind(" + t + ", " + s + ", " + k + ", " + stands + ", " + what + ")",
                        () -> x.bind(t, s, k, stands, what), () -> m.bind(t, s, k, stands, what));
                break;
            case 7:
                int a = anyThing();
                int b = anyThing();
                same("order(" + a + ", " + b + ", " + s + ", " + k + ", " + stands + ", " + what + ")",
                        () -> x.order(a, b, s, k, stands, what), () -> m.order(a, b, s, k, stands, what));
                break;
            default:
                same("when(" + k + ", " + w2 + ")", () -> x.when(k, w2), () -> m.when(k, w2));
                break;
        }
    }

    private void recount() {
        int s = anySpring();
        int k = anySort();
        int seed = any(0, 9999);
        int rule = any(0, 5);
        int n = any(1, 3);
        int w3 = any(0, 3);
        int w5 = any(0, 5);
        int stands = anyStands();
        boolean yes = random.nextBoolean();
        switch (random.nextInt(9)) {
            case 0:
                same("century(" + seed + ", " + rule + ", " + s + ", " + w3 + ")", () -> x.century(seed, rule, s, w3),
                        () -> m.century(seed, rule, s, w3));
                break;
            case 1:
                same("fares(" + seed + ", " + rule + ", " + s + ")", () -> x.fares(seed, rule, s),
                        () -> m.fares(seed, rule, s));
                break;
            case 2:
                same("told(" + seed + ", " + rule + ", " + w5 + ")", () -> x.told(seed, rule, w5),
                        () -> m.told(seed, rule, w5));
                break;
            case 3:
                int seeds = any(1, 12);
                same("bestRule(" + seeds + ")", () -> x.bestRule(seeds), () -> m.bestRule(seeds));
                break;
            case 4:
                same("brought(" + n + ")", () -> x.brought(n), () -> m.brought(n));
                break;
            case 5:
                same("rowFor(" + n + ", " + stands + ")", () -> x.rowFor(n, stands), () -> m.rowFor(n, stands));
                break;
            case 6:
                same("bestRow(" + n + ", " + k + ")", () -> x.bestRow(n, k), () -> m.bestRow(n, k));
                break;
            case 7:
                same("judged(" + w5 + ")", () -> x.judged(w5), () -> m.judged(w5));
                break;
            default:
                int at = any(0, Math.max(0, m.rows.size() - 1));
                same("rowFares(" + at + ", " + yes + ")", () -> x.rowFares(at, yes), () -> m.rowFares(at, yes));
                break;
        }
    }

    private void go(int most, boolean large) {
        tellVillage(large);
        for (int i = 0; i < most; i++) {
            int kind = random.nextInt(40);
            if (kind == 0) {
                tellVillage(large);
            } else if (kind < 9) {
                change();
            } else if (kind < 18) {
                look();
            } else if (kind < 29) {
                weigh();
            } else {
                recount();
            }
        }
    }

    private static void readSpoilt(long seed, int most) {
        VillageTexts texts = new VillageTexts(new Random(seed));
        LastWord x = new LastWord();
        for (int i = 0; i < most; i++) {
            // a full tape takes 42 calls, and nothing is promised behind the 512th
            x = i % 10 == 0 ? new LastWord() : x;
            String text = texts.spoilt();
            int due = 0;
            try {
                ModelReader.read(text);
            } catch (ModelReader.Fault e) {
                due = e.code;
            }
            int got = Tape.village(x, text);
            calls++;
            if (got != due) {
                wrong++;
                if (wrong < 5) {
                    System.out.println("village() of: " + text + "\nanswered " + got % 16 + " at " + got / 16
                            + ", due is " + due % 16 + " at " + due / 16);
                }
            }
        }
    }

    public static void main(String[] args) {
        int times = args.length > 0 ? Integer.parseInt(args[0]) : 1;
        long first = args.length > 1 ? Long.parseLong(args[1]) : 0;
        for (long seed = first; seed < first + 400L * times; seed++) {
            new ModelTest(seed).go(150, false);
        }
        for (long seed = first; seed < first + 4L * times; seed++) {
            new ModelTest(1000000 + seed).go(60, true);
        }
        for (long seed = first; seed < first + 200L * times; seed++) {
            readSpoilt(seed, 50);
        }
        System.out.println(calls + " calls, of which " + thrown + " throw: "
                + (wrong == 0 ? "all answers are as due" : wrong + " answers are not as due"));
        if (wrong != 0) {
            System.exit(1);
        }
    }
}
