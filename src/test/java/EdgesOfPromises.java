import java.lang.reflect.InvocationTargetException;
import java.lang.reflect.Method;
import java.lang.reflect.Modifier;
import java.util.Arrays;
import java.util.NoSuchElementException;

/** The edges of promises 1, 4 to 14 and 30 to 36, and of the face. */
final class EdgesOfPromises extends Edges {
    /** Two things, of 3 and 2 states, two sorts, three springs, and what can't be. */
    private static final String TWO = "thing a states 3 start 1 cost 7 stone ; thing b states 2 start 0 cost 999 ;"
            + " bar a = 2 and b = 1 ; sort kim worth a ; chance kim 6 ; sort lee worth b ; life 2 ; springs 3 ;";
    private static final int[] WAYS_OF_TWO = {0, 1, 2, 3, 4, 5};
    /** A second thing of three states behind one of two: not all numbers between can be. */
    private static final String GAPS = "thing a states 2 start 0 cost 0 ; thing b states 3 start 0 cost 0 ;"
            + " sort kim worth a + b ; chance kim 6 ; springs 16 ;";
    private static final int[] WAYS_OF_GAPS = {0, 1, 3, 4, 6, 7};
    private static final String SORT = "sort kim worth 1 ; chance kim 6 ; ";
    private static final String THING = "thing a states 2 start 0 cost 0 ; ";

    private EdgesOfPromises() {
    }

    // ---- the face

    /** Each two of the arguments at each two edges, the others 0. */
    private static void callWithEdges(Method method, String text) throws IllegalAccessException {
        int[] edges = {LEAST, -2, -1, 0, 1, 3, 6, 15, 16, 27, 9999, 10000, MOST};
        int count = method.getParameterCount();
        for (int pair = 0; pair < count * count; pair++) {
            LastWord x = Tape.of(text);
            for (int i = 0; i < edges.length * edges.length; i++) {
                Object[] arguments = new Object[count];
                Arrays.fill(arguments, 0);
                arguments[pair / count] = edges[i / edges.length];
                arguments[pair % count] = edges[i % edges.length];
                callWild(x, method, arguments);
            }
        }
    }

    private static void callWild(LastWord x, Method method, Object[] arguments) throws IllegalAccessException {
        Class<?>[] types = method.getParameterTypes();
        for (int i = 0; i < types.length; i++) {
            int n = (Integer) arguments[i];
            arguments[i] = types[i] == boolean.class ? (Object) (n % 2 == 0) : types[i] == long.class ? (Object) (long) n : n;
        }
        try {
            method.invoke(x, arguments);
        } catch (InvocationTargetException e) {
            if (!(e.getCause() instanceof NoSuchElementException) || method.getExceptionTypes().length == 0) {
                tell(method.getName() + Arrays.toString(arguments) + " threw " + e.getCause());
            }
        }
    }

    @Edge(of = "The public face", says = "throws NoSuchElementException")
    static void nothingElseIsThrown() throws IllegalAccessException {
        String full = "thing a states 3 start 2 cost 999 stone ; thing b states 3 start 1 cost 0 ; thing c states 3 start 0 cost 1 ;"
                + " sort k worth a - b * age ; sort l worth c * spring ; sort m worth 9999 ; sort n worth b ; chance k 1 ;"
                + " chance l 2 ; chance m 3 ; spring 0 is k ; spring 1 is nobody ; spring 2 is n ; life 6 ; springs 16 ;";
        for (Method method : LastWord.class.getDeclaredMethods()) {
            if (Modifier.isPublic(method.getModifiers())) {
                for (String text : new String[] {"", THING, SORT, TWO, full}) {
                    callWithEdges(method, text);
                }
            }
        }
    }

    @Edge(of = "The public face", says = "public static final int NONE = -1;")
    static void none() {
        due("NONE", LastWord.NONE, -1);
    }

    @Edge(of = "What it is", says = "An object is used for at most 512 calls after it has been made")
    static void the512thCall() {
        LastWord x = new LastWord();
        int calls = 0;
        for (; calls < 500; calls += 2) {
            x.feed(0x2020202020202020L, 0x2020202020202020L, 0x2020202020202020L);
            due("village()", x.village(), 0);
        }
        // "sort kim" " worth 2" ";" and "chance k" "im 6;"
        x.feed(0x736F7274206B696DL, 0x20776F7274682032L, 0x3B00000000000000L);
        x.feed(0x6368616E6365206BL, 0x696D20363B000000L, 0);
        due("call 503", x.village(), 0);
        calls += 3;
        for (; calls < 512; calls++) {
            due("call " + (calls + 1), x.value(0, 0, 0, 0), 8);
        }
    }

    // ---- promise 1

    @Edge(of = "Promise 1", says = "No VILLAGE: no THING, no sort, 8 SPRINGS, life 4")
    static void aNewObject() {
        LastWord x = new LastWord();
        int[] counts = {0, 0, 8, 4, 1, 0, 0, 0, 0, 0, 0, 0};
        for (int what = 0; what < counts.length; what++) {
            due("count(" + what + ")", x.count(what), counts[what]);
        }
        ways("settled", NONE, x::settled, 0);
        due("ask(0, -1)", x.ask(0, -1), true);
        due("ask(0, 0)", x.ask(0, 0), false);
        due("pledge(0, -1, 0)", x.pledge(0, -1, 0), true);
        due("pledge(0, 0, 0)", x.pledge(0, 0, 0), false);
        due("stone(0, true)", x.stone(0, true), false);
        due("mark(0, true)", x.mark(0, true), false);
        due("row(0, 0, 0)", x.row(0, 0, 0), 1);
    }

    @Edge(of = "Promise 1", says = "no THING, no sort")
    static void nothingToAnswerOnANewObject() {
        LastWord x = new LastWord();
        due("thing", x.thing(0, 0), NONE);
        due("may", x.may(0, 0, 0, 0), NONE);
        due("chooses", x.chooses(0, 0, 0, true), NONE);
        due("bestRule", x.bestRule(1), NONE);
        due("brought", x.brought(1), NONE);
        due("rowFor", x.rowFor(1, 0), NONE);
        due("bestRow", x.bestRow(1, 0), NONE);
        none("worth", () -> x.worth(0, 0, 0, 0));
        none("value", () -> x.value(0, 0, 0, 0));
        none("odds", () -> x.odds(0, 0, 0));
        none("stir", () -> x.stir(0, 0));
        none("price", () -> x.price(0, 0, 0, 0, 0));
        none("gain", () -> x.gain(0, 0, 0, 0, 0, 1, 0));
        none("lets", () -> x.lets(0, 0, 0, 0, 0, 1, 0));
        none("present", () -> x.present(0, 0, 0, 0));
        none("hopes", () -> x.hopes(0, 0, 0));
        none("vow", () -> x.vow(0, 0, 0));
        none("bind", () -> x.bind(0, 0, 0, 0, 0));
        none("order", () -> x.order(0, 1, 0, 0, 0, 0));
        none("century", () -> x.century(0, 0, 0, 0));
        none("fares", () -> x.fares(0, 0, 0));
        none("told", () -> x.told(0, 0, 0));
        none("judged", () -> x.judged(0));
        none("rowFares", () -> x.rowFares(0, false));
        none("when", () -> x.when(0, 0));
    }

    // ---- promises 4 to 11

    @Edge(of = "Promise 4", says = "Of a THING, what 0: states, 1: start, 2: cost, 3: 1 if it is of stone; NONE: others")
    static void thingOthers() {
        LastWord x = Tape.of(TWO);
        span("thing, THING", 0, 1, NONE, t -> x.thing(t, 0));
        span("thing, what", 0, 3, NONE, w -> x.thing(1, w));
        int[][] all = {{3, 1, 7, 1}, {2, 0, 999, 0}};
        for (int what = 0; what < 4; what++) {
            due("what " + what + " of 0", x.thing(0, what), all[0][what]);
            due("what " + what + " of 1", x.thing(1, what), all[1][what]);
        }
        LastWord three = Tape.of(THING + THING.replace(" a ", " b ") + THING.replace(" a ", " c "));
        span("thing, of three", 0, 2, NONE, t -> three.thing(t, 0));
        LastWord none = Tape.of(SORT);
        refused("thing, of none", 0, NONE, t -> none.thing(t, 0));
    }

    @Edge(of = "Promise 5", says = "WORTH of HOW IT STANDS to a sort at an AGE (0 to 5) in a SPRING (0 to 15)."
            + " NoSuchElementException: others")
    static void worthOthers() {
        LastWord x = Tape.of(TWO.replace("worth a ;", "worth a + 10 * age + 100 * spring ;"));
        span("worth, sort", 0, 1, THROWS, k -> x.worth(k, 0, 0, 0));
        ways("worth, HOW IT STANDS", THROWS, h -> x.worth(0, h, 0, 0), WAYS_OF_TWO);
        span("worth, AGE, beyond a life of 2, too", 0, 5, THROWS, age -> x.worth(0, 0, age, 0));
        span("worth, SPRING, behind the last of 3, too", 0, 15, THROWS, s -> x.worth(0, 0, 0, s));
        due("the greatest of all", x.worth(0, 5, 5, 15), 1552);
        LastWord gaps = Tape.of(GAPS);
        ways("worth, with gaps", THROWS, h -> gaps.worth(0, h, 0, 0), WAYS_OF_GAPS);
        LastWord none = Tape.of(THING);
        refused("worth, no sort", 0, THROWS, k -> none.worth(k, 0, 0, 0));
    }

    @Edge(of = "Promise 6", says = "1 (also if it stands so) or 0; NONE: others")
    static void mayOthers() {
        LastWord x = Tape.of(TWO);
        span("may, SPRING", 0, 2, NONE, s -> x.may(s, 0, 0, 0));
        ways("may, HOW IT STANDS", NONE, h -> x.may(0, h, 0, 0), WAYS_OF_TWO);
        span("may, THING", 0, 1, NONE, t -> x.may(0, 0, t, 0));
        span("may, state of 3", 0, 2, NONE, v -> x.may(0, 0, 0, v));
        span("may, state of 2", 0, 1, NONE, v -> x.may(0, 0, 1, v));
        LastWord gaps = Tape.of(GAPS);
        ways("may, with gaps", NONE, h -> gaps.may(15, h, 0, 0), WAYS_OF_GAPS);
        LastWord none = Tape.of(SORT);
        refused("may, no THING", 0, NONE, t -> none.may(0, 0, t, 0));
        LastWord unsorted = Tape.of(THING);
        due("may, no sort", unsorted.may(7, 0, 0, 1), 1);
    }

    @Edge(of = "Promise 6", says = "(also if it stands so)")
    static void mayIfItStandsSo() {
        LastWord x = Tape.of(TWO);
        x.ask(0, 1);
        x.ask(1, 0);
        for (int h : WAYS_OF_TWO) {
            due("of stone, another QUESTION, at " + h, x.may(0, h, 0, h % 3), 1);
            due("barred or not, another QUESTION, at " + h, x.may(1, h, 1, h / 3), 1);
        }
        due("not if it stands otherwise", x.may(0, 1, 0, 0), 0);
    }

    @Edge(of = "Promise 7", says = "HOW IT STANDS behind one of a sort who COMES in a SPRING, ahead true: AHEAD, else PLAIN (no PLEDGE);"
            + " NONE: others")
    static void choosesOthers() {
        for (int i = 0; i < 2; i++) {
            boolean ahead = i == 0;
            LastWord x = Tape.of(TWO);
            span("chooses, SPRING", 0, 2, NONE, s -> x.chooses(s, 0, 0, ahead));
            span("chooses, sort", 0, 1, NONE, k -> x.chooses(0, k, 0, ahead));
            ways("chooses, HOW IT STANDS", NONE, h -> x.chooses(0, 0, h, ahead), WAYS_OF_TWO);
            LastWord gaps = Tape.of(GAPS);
            ways("chooses, with gaps", NONE, h -> gaps.chooses(15, 0, h, ahead), WAYS_OF_GAPS);
            LastWord none = Tape.of(THING);
            refused("chooses, no sort", 0, NONE, k -> none.chooses(0, k, 0, ahead));
            LastWord things = Tape.of(SORT);
            due("chooses, no THING", things.chooses(0, 0, 0, ahead), 0);
        }
    }

    @Edge(of = "Promise 7", says = "else PLAIN (no PLEDGE)")
    static void plainWithoutPledges() {
        LastWord x = Tape.of(TUG);
        x.pledge(3, 0, 0);
        due("ahead", x.chooses(3, 0, 1, true), 0);
        due("plain", x.chooses(3, 0, 1, false), 1);
        due("plain, and does it", x.chooses(3, 0, 0, false), 1);
        x.ask(3, 0);
        x.stone(0, true);
        due("plain, but of stone", x.chooses(3, 1, 1, false), 1);
    }

    @Edge(of = "Promise 8", says = "VALUE of what she does (AHEAD; a PLEDGE, too), what 0: above (may be below 0), 1: below, in lowest"
            + " terms. NoSuchElementException: others")
    static void valueOthers() {
        LastWord x = Tape.of(TWO);
        span("value, SPRING", 0, 2, THROWS, s -> x.value(s, 0, 0, 0));
        span("value, sort", 0, 1, THROWS, k -> x.value(0, k, 0, 0));
        ways("value, HOW IT STANDS", THROWS, h -> x.value(0, 0, h, 0), WAYS_OF_TWO);
        span("value, what", 0, 1, THROWS, w -> x.value(0, 0, 0, w));
        LastWord gaps = Tape.of(GAPS);
        ways("value, with gaps", THROWS, h -> gaps.value(15, 0, h, 1), WAYS_OF_GAPS);
        LastWord none = Tape.of(THING);
        refused("value, no sort", 0, THROWS, k -> none.value(0, k, 0, 0));
    }

    @Edge(of = "Promise 8", says = "above (may be below 0), 1: below, in lowest terms")
    static void valueInLowestTerms() {
        LastWord x = Tape.of(TUG);
        part("9/2", w -> x.value(2, 0, 0, w), 9, 2);
        part("a whole one", w -> x.value(3, 0, 1, w), 5, 1);
        x.pledge(3, 0, 0);
        part("below 0", w -> x.value(3, 0, 1, w), -3, 1);
        part("nothing", w -> x.value(3, 0, 0, w), 0, 1);
        x.pledge(3, -1, 0);
        x.pledge(2, 0, 0);
        part("below 0, in parts", w -> x.value(2, 0, 1, w), -1, 2);
    }

    @Edge(of = "Promise 9", says = "The QUESTION of a SPRING (0 to 15): a THING (NONE: any): true; false: others")
    static void askOthers() {
        LastWord x = Tape.of(TWO);
        span("ask, SPRING, behind the last of 3, too", 0, 15, FALSE, s -> number(x.ask(s, 0)));
        due("all of them", x.count(9), 16);
        span("ask, SPRING, any", 0, 15, FALSE, s -> number(x.ask(s, -1)));
        due("none of them", x.count(9), 0);
        span("ask, THING", -1, 1, FALSE, t -> number(x.ask(0, t)));
        LastWord none = Tape.of(SORT);
        span("ask, no THING", -1, -1, FALSE, t -> number(none.ask(0, t)));
        LastWord y = Tape.of(TWO);
        y.ask(0, 1);
        for (int[] bad : new int[][] {{16, 0}, {-1, 0}, {0, 2}, {0, -2}, {16, -1}, {-1, -1}, {MOST, 0}, {LEAST, 0}}) {
            due("refused", y.ask(bad[0], bad[1]), false);
        }
        due("a refused one changes nothing", y.count(9), 1);
        due("a refused one changes nothing", y.may(0, 1, 0, 0) * 10 + y.may(0, 1, 1, 1), 1);
    }

    @Edge(of = "Promise 10", says = "A PLEDGE of a SPRING (0 to 15; THING NONE: none any more): true; false: others")
    static void pledgeOthers() {
        LastWord x = Tape.of(TWO);
        span("pledge, SPRING, behind the last of 3, too", 0, 15, FALSE, s -> number(x.pledge(s, 0, 0)));
        due("all of them", x.count(8), 16);
        span("pledge, SPRING, none any more", 0, 15, FALSE, s -> number(x.pledge(s, -1, 0)));
        due("none of them", x.count(8), 0);
        span("pledge, THING", -1, 1, FALSE, t -> number(x.pledge(0, t, 0)));
        span("pledge, state of 3", 0, 2, FALSE, v -> number(x.pledge(0, 0, v)));
        span("pledge, state of 2", 0, 1, FALSE, v -> number(x.pledge(0, 1, v)));
        for (int state : new int[] {-1, 3, 9, MOST, LEAST}) {
            due("none any more, whatever the state", x.pledge(0, -1, state), true);
        }
        LastWord y = Tape.of(TWO);
        y.pledge(0, 1, 1);
        for (int[] bad : new int[][] {{16, 0, 0}, {-1, 0, 0}, {0, 2, 0}, {0, -2, 0}, {0, 0, 3}, {0, 1, 2}, {0, 0, -1}, {16, -1, 0},
            {-1, -1, 0}, {MOST, 0, 0}, {LEAST, 0, 0}}) {
            due("refused", y.pledge(bad[0], bad[1], bad[2]), false);
        }
        due("a refused one changes nothing", y.count(8), 1);
        due("a refused one changes nothing", y.chooses(0, 0, 1, true), 4);
        y.pledge(0, 0, 0);
        due("a second one instead of the first", y.chooses(0, 0, 1, true), 0);
        due("a second one instead of the first", y.count(8), 1);
        LastWord none = Tape.of(SORT);
        span("pledge, no THING", -1, -1, FALSE, t -> number(none.pledge(0, t, 0)));
    }

    @Edge(of = "Promise 11", says = "A THING is of stone or of wood: true; false: none such")
    static void stoneNoneSuch() {
        LastWord x = Tape.of(TWO);
        span("stone, yes", 0, 1, FALSE, t -> number(x.stone(t, true)));
        due("both", x.thing(0, 3) * 10 + x.thing(1, 3), 11);
        span("stone, no", 0, 1, FALSE, t -> number(x.stone(t, false)));
        due("none", x.thing(0, 3) * 10 + x.thing(1, 3), 0);
        due("of wood already", x.stone(0, false), true);
        due("off its start, of wood", x.may(0, 0, 0, 1), 1);
        due("of stone", x.stone(0, true), true);
        due("of stone already", x.stone(0, true), true);
        due("off its start, of stone", x.may(0, 0, 0, 1), 0);
        LastWord none = Tape.of(SORT);
        refused("stone, no THING", 0, FALSE, t -> number(none.stone(t, true)));
    }

    // ---- promises 12 to 14

    @Edge(of = "Promise 12", says = "NoSuchElementException: others, no such SPRING, no sort")
    static void oddsOthers() {
        LastWord x = Tape.of(TWO);
        span("odds, SPRING of 3", 0, 2, THROWS, s -> x.odds(s, 0, 0));
        ways("odds, HOW IT STANDS", THROWS, h -> x.odds(0, h, 0), WAYS_OF_TWO);
        span("odds, what", 0, 1, THROWS, w -> x.odds(0, 0, w));
        LastWord gaps = Tape.of(GAPS);
        span("odds, SPRING of 16", 0, 6, THROWS, s -> gaps.odds(s, 0, 1));
        ways("odds, with gaps", THROWS, h -> gaps.odds(6, h, 1), WAYS_OF_GAPS);
        LastWord one = Tape.of(SORT + "springs 1 ;");
        span("odds, SPRING of 1", 0, 0, THROWS, s -> one.odds(s, 0, 0));
        LastWord seven = Tape.of(SORT + "springs 7 ;");
        span("odds, SPRING of 7", 0, 6, THROWS, s -> seven.odds(s, 0, 0));
        LastWord six = Tape.of(SORT + "springs 6 ;");
        span("odds, SPRING of 6", 0, 5, THROWS, s -> six.odds(s, 0, 0));
        LastWord none = Tape.of(THING + "spring 0 is nobody ;");
        none("odds, no sort", () -> none.odds(0, 0, 0));
    }

    @Edge(of = "Promise 13", says = "STIR, what 0: above, 1: below. NoSuchElementException: likewise")
    static void stirOthers() {
        LastWord x = Tape.of(TWO);
        span("stir, SPRING of 3", 0, 2, THROWS, s -> x.stir(s, 0));
        span("stir, what", 0, 1, THROWS, w -> x.stir(0, w));
        LastWord many = Tape.of(GAPS);
        span("stir, SPRING of 16", 0, 6, THROWS, s -> many.stir(s, 1));
        LastWord one = Tape.of(SORT + "springs 1 ;");
        span("stir, SPRING of 1", 0, 0, THROWS, s -> one.stir(s, 0));
        LastWord none = Tape.of(THING + "spring 0 is nobody ;");
        none("stir, no sort", () -> none.stir(0, 0));
    }

    @Edge(of = "Promise 14", says = "Whether HOW IT STANDS is SETTLED: 1 or 0; NONE: others")
    static void settledOthers() {
        LastWord x = Tape.of(TWO);
        ways("settled", NONE, x::settled, WAYS_OF_TWO);
        LastWord gaps = Tape.of(GAPS);
        ways("settled, with gaps", NONE, gaps::settled, WAYS_OF_GAPS);
        LastWord none = Tape.of(THING);
        ways("settled, no sort", NONE, none::settled, 0, 1);
        due("settled, no sort", none.settled(0) + none.settled(1), 2);
    }

    // ---- promises 30 to 36

    @Edge(of = "Promise 30", says = "A SPRING comes behind the ROW (sort NONE: nobody; THING NONE: THE SAME): how many there are; NONE: 16"
            + " are there")
    static void rowIsFull() {
        LastWord x = Tape.of(THING + SORT + "springs 16 ;");
        int[] wild = {0, -1, 1, -2, 4, 16, MOST, LEAST};
        for (int i = 1; i <= 16; i++) {
            due("row " + i, x.row(wild[i % 8], wild[i / 2 % 8], wild[i / 3 % 8]), i);
        }
        due("a seventeenth", x.row(0, -1, 0), NONE);
        due("it is not there", x.count(11), 16);
        x.clear();
        for (int i = 0; i < 15; i++) {
            x.row(0, -1, 0);
        }
        due("the sixteenth", x.row(0, 0, 1), 16);
        due("a seventeenth", x.row(0, 0, 0), NONE);
        due("what was there stays", x.judged(2), 1);
        due("all can be", x.judged(0), NONE);
        LastWord none = new LastWord();
        due("no VILLAGE", none.row(77, 77, 77), 1);
    }

    @Edge(of = "Promise 31", says = "The ROW is empty: true")
    static void clearEmptiesTheRow() {
        LastWord x = Tape.of(TUG);
        due("an empty one", x.clear(), true);
        for (int i = 0; i < 17; i++) {
            x.row(0, 0, 1);
        }
        x.ask(0, 0);
        x.pledge(1, 0, 0);
        due("a full one", x.clear(), true);
        due("count(11)", x.count(11), 0);
        due("the QUESTION and the PLEDGE stay", x.count(9) * 10 + x.count(8), 11);
        due("judged", x.judged(0), NONE);
        none("rowFares", () -> x.rowFares(0, false));
        due("row", x.row(0, -1, 0), 1);
    }

    @Edge(of = "Promise 32", says = "0: the first that can't be (NONE: all can), 1: why (0)")
    static void judgedAllCan() {
        LastWord x = Tape.of(TUG);
        due("an empty ROW", x.judged(0), NONE);
        due("an empty ROW, why", x.judged(1), 0);
        x.row(0, 0, 1);
        due("all can", x.judged(0), NONE);
        due("all can, why", x.judged(1), 0);
        x.row(2, -1, 0);
        due("the second", x.judged(0), 1);
        due("the second, why", x.judged(1), 2);
    }

    @Edge(of = "Promise 32", says = "NoSuchElementException: another what, no sort")
    static void judgedOthers() {
        LastWord x = Tape.of(TUG);
        span("judged", 0, 5, THROWS, w -> x.judged(w));
        x.row(0, 0, 1);
        span("judged, a ROW", 0, 5, THROWS, w -> x.judged(w));
        LastWord none = Tape.of(THING + "spring 0 is nobody ;");
        none.row(-1, -1, 0);
        for (int what = 0; what < 6; what++) {
            refused("judged, no sort", what, THROWS, w -> none.judged(w));
        }
    }

    @Edge(of = "Promise 33", says = "NoSuchElementException: none such among those that can be, nobody came")
    static void rowFaresNoneSuch() {
        LastWord x = Tape.of(TUG + " spring 1 is nobody ;");
        for (int i = 0; i < 2; i++) {
            boolean loss = i == 1;
            x.clear();
            none("an empty ROW", () -> x.rowFares(0, loss));
            x.row(0, 0, 1);
            span("one", 0, 0, THROWS, s -> x.rowFares(s, loss));
            x.row(-1, -1, 0);
            span("nobody came in the second", 0, 0, THROWS, s -> x.rowFares(s, loss));
            x.row(1, -1, 0);
            none("nobody came in the second", () -> x.rowFares(1, loss));
            answered("the third", 2, THROWS, s -> x.rowFares(s, loss));
            x.row(7, -1, 0);
            x.row(0, -1, 0);
            none("one that can't be", () -> x.rowFares(3, loss));
            none("one behind that", () -> x.rowFares(4, loss));
            refused("the SPRING", LEAST, THROWS, s -> x.rowFares(s, loss));
            refused("the SPRING", MOST, THROWS, s -> x.rowFares(s, loss));
            refused("the SPRING", -1, THROWS, s -> x.rowFares(s, loss));
        }
        LastWord full = Tape.of(SORT + "springs 16 ;");
        for (int i = 0; i < 16; i++) {
            full.row(0, -1, 0);
        }
        span("sixteen", 0, 15, THROWS, s -> full.rowFares(s, false));
        span("sixteen, LOSS", 0, 15, THROWS, s -> full.rowFares(s, true));
        LastWord none = Tape.of(THING + "spring 0 is nobody ;");
        none.row(-1, -1, 0);
        none("no sort", () -> none.rowFares(0, false));
    }

    @Edge(of = "Promise 34", says = "WHEN, what 0: the SPRING, 1, 2: above and below of the HOPES. NoSuchElementException: others, none")
    static void whenOthers() {
        LastWord x = Tape.of(TUG);
        span("when, sort", 0, 1, THROWS, k -> x.when(k, 0));
        span("when, what", 0, 2, THROWS, w -> x.when(0, w));
        LastWord y = Tape.of(TWO);
        none("lee can't come", () -> y.when(1, 0));
        none("lee can't come", () -> y.when(1, 2));
        answered("lee comes in the last", 1, THROWS, k -> Tape.of(TWO + " spring 2 is lee ;").when(k, 0));
        none("lee comes behind the last", () -> Tape.of(TWO + " spring 3 is lee ;").when(1, 0));
        String all = "springs 16 ;";
        for (int s = 0; s <= 6; s++) {
            all += " spring " + s + " is nobody ;";
        }
        String seven = all;
        none("nobody in all of 0 to 6", () -> Tape.of(SORT + seven).when(0, 0));
        LastWord none = Tape.of(THING);
        none("no sort", () -> none.when(0, 0));
    }

    @Edge(of = "Promise 35", says = "A MARK is laid (back: gone back to): true; false: none such, nothing is on it (back)")
    static void markNoneSuch() {
        LastWord x = Tape.of(TUG);
        for (int mark = 0; mark < 4; mark++) {
            due("nothing is on it", x.mark(mark, true), false);
        }
        due("a refused one changes nothing", x.count(0), 1);
        x.mark(2, false);
        int[] laid = {0, 0, 1, 0};
        for (int mark = 0; mark < 4; mark++) {
            due("on one alone", x.mark(mark, true), laid[mark] == 1);
        }
        span("mark, laid", 0, 3, FALSE, m -> number(x.mark(m, false)));
        span("mark, back", 0, 3, FALSE, m -> number(x.mark(m, true)));
        LastWord y = new LastWord();
        due("no VILLAGE on it", y.mark(3, false), true);
        Tape.village(y, TUG);
        due("laid anew by nobody: gone back to no VILLAGE", y.mark(3, true), true);
        due("no THING", y.count(0) + y.count(1), 0);
        Tape.village(y, TUG);
        y.mark(3, false);
        y.row(0, 0, 1);
        y.ask(0, 0);
        y.mark(3, false);
        y.clear();
        due("the last one that was laid", y.mark(3, true), true);
        due("the last one that was laid", y.count(9) * 10 + y.count(11), 11);
        y.row(0, 0, 1);
        y.ask(1, 0);
        due("once more", y.mark(3, true), true);
        due("it stays as it was laid", y.count(9) * 10 + y.count(11), 11);
    }

    @Edge(of = "Promise 35", says = "gone back to")
    static void markLeavesTheTape() {
        LastWord x = Tape.of(TUG);
        x.mark(0, false);
        Tape.feed(x, "life 7");
        x.mark(0, true);
        due("the TAPE stays", x.count(10), 6);
        due("the TAPE stays", x.village(), 4 + 16 * 5);
    }

    @Edge(of = "Promise 36", says = "NONE for another what")
    static void countOthers() {
        LastWord x = new LastWord();
        span("count", 0, 11, NONE, x::count);
        LastWord full = Tape.of(TWO);
        span("count, a VILLAGE", 0, 11, NONE, full::count);
    }

    @Edge(of = "Promise 36", says = "What 0: THINGS, 1: sorts, 2: SPRINGS, 3: life, 4: how many ways IT may STAND, 5: the start, 6: bars, 7:"
            + " SPRINGS told, 8: PLEDGES, 9: QUESTIONS that are not any, 10: signs on the TAPE, 11: SPRINGS of the ROW")
    static void countsAtTheirGreatest() {
        StringBuilder text = new StringBuilder();
        for (String name : "a b c".split(" ")) {
            text.append("thing ").append(name).append(" states 3 start 2 cost 0 ; ");
        }
        for (String name : "k l m n".split(" ")) {
            text.append("sort ").append(name).append(" worth 0 ; bar a ; ");
        }
        text.append("chance n 6 ; life 6 ; springs 16 ;");
        for (int s = 0; s < 16; s++) {
            text.append("spring ").append(s).append(s % 2 == 0 ? " is nobody ;" : " is k ;");
        }
        LastWord x = Tape.of(text.toString());
        for (int s = 0; s < 16; s++) {
            x.ask(s, 2);
            x.pledge(s, 2, 2);
            x.row(0, 0, 0);
        }
        Tape.feed(x, " ".repeat(1000));
        int[] counts = {3, 4, 16, 6, 27, 26, 4, 16, 16, 16, 1000, 16};
        for (int what = 0; what < counts.length; what++) {
            due("count(" + what + ")", x.count(what), counts[what]);
        }
        LastWord few = Tape.of("springs 1 ; spring 15 is nobody ; thing a states 2 start 0 cost 0 ;");
        few.ask(15, 0);
        few.pledge(15, 0, 1);
        due("behind the last SPRING, too", few.count(7) * 100 + few.count(8) * 10 + few.count(9), 111);
    }
}
