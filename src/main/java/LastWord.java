import java.util.Arrays;
import java.util.NoSuchElementException;

/** A village in which whoever comes of age settles one thing for all, once. */
public final class LastWord {
    public static final int NONE = -1;

    private static final int MOST_SIGNS = 1000;
    private static final int MOST_THINGS = 3;
    private static final int MOST_STATES = 3;
    private static final int MOST_SORTS = 4;
    private static final int MOST_BARS = 4;
    private static final int MOST_SPRINGS = 16;
    private static final int MOST_LIFE = 6;
    private static final int MOST_WAYS = 27;
    private static final int MOST_MARKS = 4;
    private static final int MOST_ROWS_OF_QUESTIONS = 64;
    private static final int MOST_ACTS = 7;
    private static final int MOST_SEED = 9999;
    private static final int MOST_WORTH = 9999;
    private static final int LAST_FORESEEN = 6;
    private static final int SIX = 6;

    /** Of a spring for which nothing is told; NONE is there if nobody is told. */
    private static final int UNTOLD = -2;

    private static final int[] PLACES = {1, 3, 9};

    /** Sums of worths are kept in parts of 6 to the 5: five springs may follow the first one of a life. */
    private static final long UNIT = 7776L;

    /** Odds are kept in parts of 6 to the 7: seven springs are foreseen. */
    private static final long WHOLE = 279936L;

    private static final int AHEAD = 0;
    private static final int PLAIN = 1;
    private static final int ELDEST = 2;
    private static final int LOTS = 3;
    private static final int ALL = 4;
    private static final int RULES = 6;

    private final char[] tape = new char[MOST_SIGNS];
    private int signs = 0;
    private final Reader reader = new Reader(tape);
    private final Told now = new Told(new Village());
    private final Told[] marks = new Told[MOST_MARKS];
    private final Plan plan = new Plan(now);
    private final Odds foresight = new Odds(now, plan);
    private final Century chronicle = new Century(now, plan);
    private final Judge judge = new Judge(now, plan);
    private final int[] firstRow = new int[MOST_WAYS];
    private final int[] keptQuestions = new int[MOST_SPRINGS];

    public LastWord() {
        for (int i = 0; i < MOST_MARKS; i++) {
            marks[i] = new Told(now.village);
        }
        plan.forgetAll();
    }

    public int feed(long a, long b, long c) {
        takeSigns(a);
        takeSigns(b);
        takeSigns(c);
        return signs;
    }

    public int village() {
        Village read = new Village();
        int fault = reader.readInto(read, signs);
        signs = 0;
        if (fault == 0) {
            now.beginWith(read);
            plan.forgetAll();
        }
        return fault;
    }

    public int thing(int thing, int what) {
        Village v = now.village;
        if (!v.hasThing(thing)) {
            return NONE;
        }
        switch (what) {
            case 0:
                return v.states[thing];
            case 1:
                return v.start[thing];
            case 2:
                return v.cost[thing];
            case 3:
                return now.ofStone[thing] ? 1 : 0;
            default:
                return NONE;
        }
    }

    public int worth(int sort, int stands, int age, int spring) throws NoSuchElementException {
        Village v = now.village;
        need(v.hasSort(sort) && v.canStand(stands));
        need(age >= 0 && age < MOST_LIFE && inCalendar(spring));
        return v.worthOf(sort, stands, age, spring);
    }

    public int may(int spring, int stands, int thing, int state) {
        Village v = now.village;
        if (!v.hasSpring(spring) || !v.canStand(stands) || !v.hasState(thing, state)) {
            return NONE;
        }
        return now.allows(spring, stands, thing, state) ? 1 : 0;
    }

    public int chooses(int spring, int sort, int stands, boolean ahead) {
        if (!isScene(spring, sort, stands)) {
            return NONE;
        }
        plan.solveFrom(spring);
        return ahead ? plan.choiceOf(spring, sort, stands) : plan.plainChoice(spring, sort, 0, stands);
    }

    public long value(int spring, int sort, int stands, int what) throws NoSuchElementException {
        need(isScene(spring, sort, stands) && isPart(what));
        plan.solveFrom(spring);
        return lowestTerms(plan.valueOf(spring, sort, stands), UNIT, what);
    }

    public boolean ask(int spring, int thing) {
        if (!inCalendar(spring) || thing != NONE && !now.village.hasThing(thing)) {
            return false;
        }
        setQuestion(spring, thing);
        return true;
    }

    public boolean pledge(int spring, int thing, int state) {
        if (!inCalendar(spring) || thing != NONE && !now.village.hasState(thing, state)) {
            return false;
        }
        setPledge(spring, thing, thing == NONE ? 0 : state);
        return true;
    }

    public boolean stone(int thing, boolean yes) {
        if (!now.village.hasThing(thing)) {
            return false;
        }
        setStone(thing, yes);
        return true;
    }

    public long odds(int spring, int stands, int what) throws NoSuchElementException {
        need(isForeseen(spring) && now.village.canStand(stands) && isPart(what));
        plan.solveFrom(0);
        foresight.passAheadOf(spring + 1);
        return lowestTerms(foresight.oddsOf(stands), WHOLE, what);
    }

    public long stir(int spring, int what) throws NoSuchElementException {
        need(isForeseen(spring) && isPart(what));
        plan.solveFrom(0);
        foresight.passAheadOf(spring + 1);
        return lowestTerms(foresight.stirred(), WHOLE, what);
    }

    public int settled(int stands) {
        Village v = now.village;
        if (!v.canStand(stands)) {
            return NONE;
        }
        plan.solveFrom(0);
        for (int spring = 0; spring < v.springs; spring++) {
            if (wouldStir(spring, stands)) {
                return 0;
            }
        }
        return 1;
    }

    public long price(int spring, int sort, int stands, int then, int what) throws NoSuchElementException {
        need(isFreeAct(spring, sort, stands, then) && isPart(what));
        plan.solveFrom(spring);
        return lowestTerms(priceOf(spring, sort, stands, then), UNIT, what);
    }

    public long gain(int spring, int sort, int stands, int then, int other, int age, int what)
            throws NoSuchElementException {
        need(isFreeAct(spring, sort, stands, then) && isElder(other, age) && isPart(what));
        plan.solveFrom(spring);
        int hers = plan.choiceOf(spring, sort, stands);
        return lowestTerms(gainOf(spring, hers, then, other, age), UNIT, what);
    }

    public long lets(int spring, int sort, int stands, int then, int other, int age, int what)
            throws NoSuchElementException {
        need(isFreeAct(spring, sort, stands, then) && isElder(other, age) && isPart(what));
        plan.solveFrom(spring);
        int hers = plan.choiceOf(spring, sort, stands);
        long left = gainOf(spring, hers, then, other, age) - priceOf(spring, sort, stands, then);
        return lowestTerms(left, UNIT, what);
    }

    public long present(int spring, int sort, int stands, int what) throws NoSuchElementException {
        need(isScene(spring, sort, stands) && what >= 0 && what <= 4);
        need(!now.isPledged(spring) && now.village.life > 1);
        plan.solveFrom(spring);
        now.gatherActs(spring, stands);
        Present best = new Present();
        for (int act = 0; act < now.actCount; act++) {
            offerAct(best, spring, sort, stands, now.acts[act]);
        }
        switch (what) {
            case 0:
                return best.then;
            case 1:
                return best.sort;
            case 2:
                return best.age;
            default:
                return lowestTerms(best.left, UNIT, what - 3);
        }
    }

    public long hopes(int spring, int sort, int what) throws NoSuchElementException {
        need(isForeseen(spring) && now.village.hasSort(sort) && isPart(what));
        plan.solveFrom(0);
        return lowestTerms(foresight.hopesOf(spring, sort), WHOLE * UNIT, what);
    }

    public long vow(int spring, int sort, int what) throws NoSuchElementException {
        Village v = now.village;
        need(isForeseen(spring) && v.hasSort(sort) && v.things > 0 && what >= 0 && what <= 2);
        int keptThing = now.pledgeThing[spring];
        int keptState = now.pledgeState[spring];
        long without = hopesUnder(spring, sort, NONE, 0);
        long most = 0;
        int best = NONE;
        for (int thing = 0; thing < v.things; thing++) {
            for (int state = 0; state < v.states[thing]; state++) {
                long got = hopesUnder(spring, sort, thing, state);
                if (best == NONE || got > most) {
                    most = got;
                    best = thing * MOST_STATES + state;
                }
            }
        }
        setPledge(spring, keptThing, keptState);
        return what == 0 ? best : lowestTerms(most - without, WHOLE * UNIT, what - 1);
    }

    public long bind(int thing, int spring, int sort, int stands, int what) throws NoSuchElementException {
        need(now.village.hasThing(thing) && isScene(spring, sort, stands) && isPart(what));
        boolean kept = now.ofStone[thing];
        setStone(thing, true);
        long bound = valueAnew(spring, sort, stands);
        setStone(thing, false);
        long loose = valueAnew(spring, sort, stands);
        setStone(thing, kept);
        return lowestTerms(bound - loose, UNIT, what);
    }

    public long order(int a, int b, int spring, int sort, int stands, int what) throws NoSuchElementException {
        Village v = now.village;
        need(v.hasThing(a) && v.hasThing(b) && a != b && isPart(what));
        need(isScene(spring, sort, stands) && v.hasSpring(spring + 1));
        int keptFirst = now.question[spring];
        int keptSecond = now.question[spring + 1];
        setQuestion(spring, a);
        setQuestion(spring + 1, b);
        long straight = valueAnew(spring, sort, stands);
        setQuestion(spring, b);
        setQuestion(spring + 1, a);
        long turned = valueAnew(spring, sort, stands);
        setQuestion(spring, keptFirst);
        setQuestion(spring + 1, keptSecond);
        return lowestTerms(straight - turned, UNIT, what);
    }

    public int century(int seed, int rule, int spring, int what) throws NoSuchElementException {
        need(isCentury(seed, rule) && now.village.hasSpring(spring) && what >= 0 && what <= 3);
        chronicle.run(seed, rule);
        switch (what) {
            case 0:
                return chronicle.stood[spring];
            case 1:
                return chronicle.came[spring];
            case 2:
                return chronicle.asked[spring];
            default:
                return chronicle.changed[spring];
        }
    }

    public int fares(int seed, int rule, int spring) throws NoSuchElementException {
        need(isCentury(seed, rule) && now.village.hasSpring(spring));
        chronicle.run(seed, rule);
        need(chronicle.came[spring] != NONE);
        return chronicle.faresOf(spring);
    }

    public int told(int seed, int rule, int what) throws NoSuchElementException {
        need(isCentury(seed, rule) && what >= 0 && what <= 5);
        chronicle.run(seed, rule);
        switch (what) {
            case 0:
                return chronicle.lasts();
            case 1:
                return chronicle.timesBack();
            case 2:
                return chronicle.faresOfAll();
            case 3:
                return chronicle.timesAsked(true);
            case 4:
                return chronicle.timesAsked(false);
            default:
                return chronicle.costs;
        }
    }

    public int bestRule(int seeds) {
        if (seeds < 1 || seeds > 12 || now.village.sorts == 0) {
            return NONE;
        }
        int best = NONE;
        long most = 0;
        for (int rule = 0; rule < RULES; rule++) {
            long sum = 0;
            for (int seed = 0; seed < seeds; seed++) {
                chronicle.run(seed, rule);
                sum += chronicle.faresOfAll();
            }
            if (best == NONE || sum > most) {
                best = rule;
                most = sum;
            }
        }
        return best;
    }

    public int brought(int n) {
        if (!isSetOut(n)) {
            return NONE;
        }
        findFirstRows(n);
        int reached = 0;
        for (int stands = 0; stands < MOST_WAYS; stands++) {
            if (firstRow[stands] != NONE) {
                reached++;
            }
        }
        return reached;
    }

    public int rowFor(int n, int stands) {
        if (!isSetOut(n) || !now.village.canStand(stands)) {
            return NONE;
        }
        findFirstRows(n);
        return firstRow[stands];
    }

    public int bestRow(int n, int sort) {
        Village v = now.village;
        if (!isSetOut(n) || !v.hasSort(sort)) {
            return NONE;
        }
        keepQuestions(n);
        int rows = rowsOfQuestions(n);
        int best = NONE;
        long most = 0;
        for (int row = 0; row < rows; row++) {
            setQuestions(n, row);
            long got = valueAnew(0, sort, v.startStands());
            if (best == NONE || got > most) {
                best = row;
                most = got;
            }
        }
        restoreQuestions(n);
        return best;
    }

    public int row(int sort, int thing, int state) {
        return now.addRow(sort, thing, state);
    }

    public boolean clear() {
        now.rows = 0;
        return true;
    }

    public long judged(int what) throws NoSuchElementException {
        need(what >= 0 && what <= 5 && now.village.sorts > 0);
        plan.solveFrom(0);
        judge.hear();
        switch (what) {
            case 0:
                return judge.why == 0 ? NONE : judge.good;
            case 1:
                return judge.why;
            case 2:
                return judge.standsBehind();
            case 3:
                return judge.didAsAhead();
            default:
                return lowestTerms(judge.likelyAbove(), judge.likelyBelow(), what - 4);
        }
    }

    public int rowFares(int spring, boolean loss) throws NoSuchElementException {
        plan.solveFrom(0);
        judge.hear();
        need(spring >= 0 && spring < judge.good && now.rowSort[spring] != NONE);
        return loss ? judge.lossOf(spring) : judge.faresOf(spring);
    }

    public long when(int sort, int what) throws NoSuchElementException {
        need(now.village.hasSort(sort) && what >= 0 && what <= 2);
        plan.solveFrom(0);
        int best = NONE;
        long most = 0;
        for (int spring = 0; spring <= LAST_FORESEEN; spring++) {
            if (isForeseen(spring) && now.village.chanceIn(spring, sort) > 0) {
                long got = foresight.hopesOf(spring, sort);
                if (best == NONE || got > most) {
                    best = spring;
                    most = got;
                }
            }
        }
        need(best != NONE);
        return what == 0 ? best : lowestTerms(most, WHOLE * UNIT, what - 1);
    }

    public boolean mark(int mark, boolean back) {
        if (mark < 0 || mark >= MOST_MARKS || back && !marks[mark].isLaid) {
            return false;
        }
        if (back) {
            now.takeFrom(marks[mark]);
            plan.forgetAll();
        } else {
            marks[mark].takeFrom(now);
            marks[mark].isLaid = true;
        }
        return true;
    }

    public int count(int what) {
        Village v = now.village;
        switch (what) {
            case 0:
                return v.things;
            case 1:
                return v.sorts;
            case 2:
                return v.springs;
            case 3:
                return v.life;
            case 4:
                return v.ways;
            case 5:
                return v.startStands();
            case 6:
                return v.bars;
            case 7:
                return v.springsTold();
            case 8:
                return countOthers(now.pledgeThing);
            case 9:
                return countOthers(now.question);
            case 10:
                return signs;
            case 11:
                return now.rows;
            default:
                return NONE;
        }
    }

    private static void need(boolean asTold) {
        if (!asTold) {
            throw new NoSuchElementException("there is no such thing to tell of");
        }
    }

    /** what 0: above, else below, of a fraction whose part below is above 0. */
    private static long lowestTerms(long above, long below, int what) {
        long divisor = below;
        long rest = Math.abs(above);
        for (int i = 0; i < 200 && rest != 0; i++) {
            long next = divisor % rest;
            divisor = rest;
            rest = next;
        }
        if (divisor < 1) {
            return 0;
        }
        return what == 0 ? above / divisor : below / divisor;
    }

    private void takeSigns(long bytes) {
        for (int shift = 56; shift >= 0; shift -= 8) {
            int sign = (int) (bytes >>> shift) & 255;
            boolean fits = sign == 10 || sign >= 32 && sign <= 126;
            if (fits && signs < MOST_SIGNS) {
                tape[signs] = (char) sign;
                signs++;
            }
        }
    }

    private static boolean inCalendar(int spring) {
        return spring >= 0 && spring < MOST_SPRINGS;
    }

    private static boolean isPart(int what) {
        return what == 0 || what == 1;
    }

    private boolean isScene(int spring, int sort, int stands) {
        Village v = now.village;
        return v.hasSpring(spring) && v.hasSort(sort) && v.canStand(stands);
    }

    private boolean isForeseen(int spring) {
        return spring <= LAST_FORESEEN && now.village.hasSpring(spring) && now.village.sorts > 0;
    }

    private boolean isCentury(int seed, int rule) {
        return seed >= 0 && seed <= MOST_SEED && rule >= 0 && rule < RULES && now.village.sorts > 0;
    }

    private boolean isElder(int sort, int age) {
        return now.village.hasSort(sort) && age >= 1 && age < now.village.life;
    }

    private boolean isFreeAct(int spring, int sort, int stands, int then) {
        return isScene(spring, sort, stands) && now.village.canStand(then)
                && !now.isPledged(spring) && now.leadsTo(spring, stands, then);
    }

    private void setQuestion(int spring, int thing) {
        now.question[spring] = thing;
        plan.forgetUpTo(spring);
    }

    private void setPledge(int spring, int thing, int state) {
        now.pledgeThing[spring] = thing;
        now.pledgeState[spring] = state;
        plan.forgetUpTo(spring);
    }

    private void setStone(int thing, boolean yes) {
        if (now.ofStone[thing] != yes) {
            now.ofStone[thing] = yes;
            plan.forgetActs();
        }
    }

    private boolean wouldStir(int spring, int stands) {
        for (int sort = 0; sort < now.village.sorts; sort++) {
            if (now.village.chanceIn(spring, sort) > 0 && plan.choiceOf(spring, sort, stands) != stands) {
                return true;
            }
        }
        return false;
    }

    private long valueAnew(int spring, int sort, int stands) {
        plan.solveFrom(spring);
        return plan.valueOf(spring, sort, stands);
    }

    private long priceOf(int spring, int sort, int stands, int then) {
        return plan.valueOf(spring, sort, stands) - plan.valueWith(spring, sort, stands, then);
    }

    private long gainOf(int spring, int hers, int then, int other, int age) {
        return plan.sumOf(spring, other, age, then) - plan.sumOf(spring, other, age, hers);
    }

    private void offerAct(Present best, int spring, int sort, int stands, int then) {
        long price = priceOf(spring, sort, stands, then);
        int hers = plan.choiceOf(spring, sort, stands);
        for (int other = 0; other < now.village.sorts; other++) {
            for (int age = 1; age < now.village.life; age++) {
                best.offer(gainOf(spring, hers, then, other, age) - price, then, other, age);
            }
        }
    }

    private long hopesUnder(int spring, int sort, int thing, int state) {
        setPledge(spring, thing, state);
        plan.solveFrom(0);
        return foresight.hopesOf(spring, sort);
    }

    private boolean isSetOut(int n) {
        Village v = now.village;
        if (n < 1 || n > 3 || n > v.springs || v.sorts == 0) {
            return false;
        }
        for (int spring = 0; spring < n; spring++) {
            if (v.comes[spring] == UNTOLD) {
                return false;
            }
        }
        return true;
    }

    private int rowsOfQuestions(int n) {
        int rows = 1;
        for (int i = 0; i < n; i++) {
            rows *= now.village.things + 1;
        }
        return Math.min(rows, MOST_ROWS_OF_QUESTIONS);
    }

    private void keepQuestions(int n) {
        System.arraycopy(now.question, 0, keptQuestions, 0, n);
    }

    private void restoreQuestions(int n) {
        for (int spring = 0; spring < n; spring++) {
            setQuestion(spring, keptQuestions[spring]);
        }
    }

    private void setQuestions(int n, int row) {
        int base = Math.max(1, now.village.things + 1);
        int rest = row;
        for (int spring = n - 1; spring >= 0; spring--) {
            setQuestion(spring, rest % base - 1);
            rest /= base;
        }
    }

    private void findFirstRows(int n) {
        Arrays.fill(firstRow, NONE);
        keepQuestions(n);
        int rows = rowsOfQuestions(n);
        for (int row = 0; row < rows; row++) {
            setQuestions(n, row);
            plan.solveFrom(0);
            int stands = standsBehind(n);
            if (firstRow[stands] == NONE) {
                firstRow[stands] = row;
            }
        }
        restoreQuestions(n);
    }

    private int standsBehind(int n) {
        int stands = now.village.startStands();
        for (int spring = 0; spring < n; spring++) {
            int sort = now.village.comes[spring];
            if (sort >= 0) {
                stands = plan.choiceOf(spring, sort, stands);
            }
        }
        return stands;
    }

    private static int countOthers(int[] things) {
        int others = 0;
        for (int i = 0; i < things.length; i++) {
            if (things[i] != NONE) {
                others++;
            }
        }
        return others;
    }

    /** An E in the order in which it is reckoned: what is joined stands ahead of what joins it. */
    private static final class Formula {
        static final int NUMBER = 0;
        static final int STATE = 1;
        static final int AGE = 2;
        static final int SPRING = 3;
        static final int NOT = 4;
        static final int AND = 5;
        static final int OR = 6;
        static final int LESS = 7;
        static final int EQUAL = 8;
        static final int PLUS = 9;
        static final int MINUS = 10;
        static final int TIMES = 11;
        static final int KINDS = 16;

        /** Five depths with four operands waiting in each, and one more, are the most: 21. */
        static final int MOST_WAITING = 32;

        private final int[] steps;

        Formula(int[] steps) {
            this.steps = steps;
        }

        int reckon(int stands, int age, int spring, int[] waiting) {
            int top = 0;
            for (int i = 0; i < steps.length; i++) {
                int kind = steps[i] % KINDS;
                if (kind == NOT && top >= 1) {
                    waiting[top - 1] = waiting[top - 1] == 0 ? 1 : 0;
                } else if (kind > NOT && top >= 2) {
                    top--;
                    waiting[top - 1] = join(kind, waiting[top - 1], waiting[top]);
                } else if (kind < NOT && top < waiting.length) {
                    waiting[top] = partOf(kind, steps[i] / KINDS, stands, age, spring);
                    top++;
                }
            }
            return top >= 1 ? waiting[0] : 0;
        }

        private static int partOf(int kind, int detail, int stands, int age, int spring) {
            switch (kind) {
                case STATE:
                    return Village.stateOf(stands, detail);
                case AGE:
                    return age;
                case SPRING:
                    return spring;
                default:
                    return detail;
            }
        }

        private static int join(int kind, int a, int b) {
            switch (kind) {
                case AND:
                    return a != 0 && b != 0 ? 1 : 0;
                case OR:
                    return a != 0 || b != 0 ? 1 : 0;
                case LESS:
                    return a < b ? 1 : 0;
                case EQUAL:
                    return a == b ? 1 : 0;
                case PLUS:
                    return a + b;
                case MINUS:
                    return a - b;
                default:
                    return a * b;
            }
        }
    }

    /** What the text of a village tells; it stays as it is once it has been read, so marks may share it. */
    private static final class Village {
        int things = 0;
        final int[] states = new int[MOST_THINGS];
        final int[] start = new int[MOST_THINGS];
        final int[] cost = new int[MOST_THINGS];
        final boolean[] stone = new boolean[MOST_THINGS];
        int sorts = 0;
        final int[] chance = new int[MOST_SORTS];
        final Formula[] worth = new Formula[MOST_SORTS];
        final int[] comes = new int[MOST_SPRINGS];
        int bars = 0;
        final Formula[] bar = new Formula[MOST_BARS];
        int life = 4;
        int springs = 8;
        int ways = 1;
        final int[] way = new int[MOST_WAYS];
        final boolean[] barred = new boolean[MOST_WAYS];
        private final int[] waiting = new int[Formula.MOST_WAITING];

        Village() {
            Arrays.fill(comes, UNTOLD);
        }

        static int stateOf(int stands, int thing) {
            if (thing < 0 || thing >= MOST_THINGS) {
                return 0;
            }
            return stands / PLACES[thing] % MOST_STATES;
        }

        static int changed(int stands, int thing, int state) {
            if (thing < 0 || thing >= MOST_THINGS) {
                return stands;
            }
            return stands + (state - stateOf(stands, thing)) * PLACES[thing];
        }

        boolean hasThing(int thing) {
            return thing >= 0 && thing < things;
        }

        boolean hasState(int thing, int state) {
            return hasThing(thing) && state >= 0 && state < states[thing];
        }

        boolean hasSort(int sort) {
            return sort >= 0 && sort < sorts;
        }

        boolean hasSpring(int spring) {
            return spring >= 0 && spring < springs;
        }

        boolean canStand(int stands) {
            if (stands < 0 || stands >= MOST_WAYS) {
                return false;
            }
            for (int thing = 0; thing < MOST_THINGS; thing++) {
                int most = thing < things ? states[thing] : 1;
                if (stateOf(stands, thing) >= most) {
                    return false;
                }
            }
            return true;
        }

        int startStands() {
            int stands = 0;
            for (int thing = 0; thing < things; thing++) {
                stands += start[thing] * PLACES[thing];
            }
            return stands;
        }

        int springsTold() {
            int told = 0;
            for (int spring = 0; spring < MOST_SPRINGS; spring++) {
                if (comes[spring] != UNTOLD) {
                    told++;
                }
            }
            return told;
        }

        int worthOf(int sort, int stands, int age, int spring) {
            Formula formula = worth[sort];
            if (formula == null) {
                return 0;
            }
            int raw = formula.reckon(stands, age, spring, waiting);
            return Math.max(-MOST_WORTH, Math.min(MOST_WORTH, raw));
        }

        /** How many of six times this sort comes in that spring. */
        int chanceIn(int spring, int sort) {
            if (comes[spring] == UNTOLD) {
                return chance[sort];
            }
            return comes[spring] == sort ? SIX : 0;
        }

        /** The chances of the sorts are six together: where nothing is told somebody comes, if there is a sort. */
        int chanceOfNobody(int spring) {
            boolean nobody = comes[spring] == UNTOLD ? sorts == 0 : comes[spring] == NONE;
            return nobody ? SIX : 0;
        }

        /** The thing whose state differs, NONE if none does. */
        int differing(int stands, int then) {
            for (int thing = 0; thing < things; thing++) {
                if (stateOf(stands, thing) != stateOf(then, thing)) {
                    return thing;
                }
            }
            return NONE;
        }

        int costOf(int stands, int then) {
            int thing = differing(stands, then);
            return thing == NONE ? 0 : cost[thing];
        }

        /** Bars look at nothing but how it stands, so that they are reckoned once, when all has been read. */
        void close() {
            ways = 0;
            for (int stands = 0; stands < MOST_WAYS; stands++) {
                if (canStand(stands)) {
                    way[ways] = stands;
                    ways++;
                    barred[stands] = isBarred(stands);
                }
            }
        }

        private boolean isBarred(int stands) {
            for (int i = 0; i < bars; i++) {
                if (bar[i] != null && bar[i].reckon(stands, 0, 0, waiting) != 0) {
                    return true;
                }
            }
            return false;
        }
    }

    /** What holds now, and what a mark keeps of it. */
    private static final class Told {
        Village village;
        final int[] question = new int[MOST_SPRINGS];
        final int[] pledgeThing = new int[MOST_SPRINGS];
        final int[] pledgeState = new int[MOST_SPRINGS];
        final boolean[] ofStone = new boolean[MOST_THINGS];
        final int[] rowSort = new int[MOST_SPRINGS];
        final int[] rowThing = new int[MOST_SPRINGS];
        final int[] rowState = new int[MOST_SPRINGS];
        int rows = 0;
        boolean isLaid = false;
        final int[] acts = new int[MOST_ACTS];
        final int[] actCosts = new int[MOST_ACTS];
        int actCount = 0;

        Told(Village village) {
            this.village = village;
            Arrays.fill(question, NONE);
            Arrays.fill(pledgeThing, NONE);
        }

        void beginWith(Village read) {
            village = read;
            Arrays.fill(question, NONE);
            Arrays.fill(pledgeThing, NONE);
            Arrays.fill(pledgeState, 0);
            for (int thing = 0; thing < MOST_THINGS; thing++) {
                ofStone[thing] = read.stone[thing];
            }
            rows = 0;
        }

        void takeFrom(Told other) {
            village = other.village;
            System.arraycopy(other.question, 0, question, 0, MOST_SPRINGS);
            System.arraycopy(other.pledgeThing, 0, pledgeThing, 0, MOST_SPRINGS);
            System.arraycopy(other.pledgeState, 0, pledgeState, 0, MOST_SPRINGS);
            for (int thing = 0; thing < MOST_THINGS; thing++) {
                ofStone[thing] = other.ofStone[thing];
            }
            System.arraycopy(other.rowSort, 0, rowSort, 0, MOST_SPRINGS);
            System.arraycopy(other.rowThing, 0, rowThing, 0, MOST_SPRINGS);
            System.arraycopy(other.rowState, 0, rowState, 0, MOST_SPRINGS);
            rows = other.rows;
        }

        int addRow(int sort, int thing, int state) {
            if (rows >= MOST_SPRINGS) {
                return NONE;
            }
            rowSort[rows] = sort;
            rowThing[rows] = thing;
            rowState[rows] = state;
            rows++;
            return rows;
        }

        boolean allows(int spring, int stands, int thing, int state) {
            int at = Village.stateOf(stands, thing);
            if (at == state) {
                return true;
            }
            boolean inQuestion = question[spring] == NONE || question[spring] == thing;
            boolean loose = !ofStone[thing] || at == village.start[thing];
            return inQuestion && loose && !village.barred[stands + (state - at) * PLACES[thing]];
        }

        /** THE SAME, then what may be done by things and states: who finds the best one first keeps to the order. */
        void gatherActs(int spring, int stands) {
            acts[0] = stands;
            actCosts[0] = 0;
            actCount = 1;
            for (int thing = 0; thing < village.things; thing++) {
                for (int state = 0; state < village.states[thing]; state++) {
                    int then = Village.changed(stands, thing, state);
                    if (then != stands && actCount < MOST_ACTS && allows(spring, stands, thing, state)) {
                        acts[actCount] = then;
                        actCosts[actCount] = village.cost[thing];
                        actCount++;
                    }
                }
            }
        }

        /** Whether one act, or THE SAME, brings it to stand so. */
        boolean leadsTo(int spring, int stands, int then) {
            int thing = village.differing(stands, then);
            if (thing == NONE) {
                return true;
            }
            int state = Village.stateOf(then, thing);
            return Village.changed(stands, thing, state) == then && allows(spring, stands, thing, state);
        }

        /** How it stands behind an act that is done so far as it may be done. */
        int standsIfDone(int spring, int stands, int thing, int state) {
            if (thing == NONE || !allows(spring, stands, thing, state)) {
                return stands;
            }
            return Village.changed(stands, thing, state);
        }

        boolean isPledged(int spring) {
            return pledgeThing[spring] != NONE;
        }
    }

    /** The tokens of the tape, each as long as can be, and the end behind them. */
    private static final class Tokens {
        static final int THING = 0;
        static final int STATES = 1;
        static final int START = 2;
        static final int COST = 3;
        static final int STONE = 4;
        static final int SORT = 5;
        static final int WORTH = 6;
        static final int CHANCE = 7;
        static final int SPRING = 8;
        static final int IS = 9;
        static final int NOBODY = 10;
        static final int BAR = 11;
        static final int LIFE = 12;
        static final int SPRINGS = 13;
        static final int NOT = 14;
        static final int AND = 15;
        static final int OR = 16;
        static final int AGE = 17;
        static final int NAME = 18;
        static final int NUMBER = 19;
        static final int OPEN = 20;
        static final int CLOSE = 21;
        static final int LESS = 22;
        static final int EQUAL = 23;
        static final int PLUS = 24;
        static final int MINUS = 25;
        static final int TIMES = 26;
        static final int STOP = 27;
        static final int END = 28;
        static final int NO_TOKEN = 29;

        /** In the order of the numbers above, from THING on. */
        private static final String KEYWORDS =
                "thing states start cost stone sort worth chance spring is nobody bar life springs not and or age";

        /** In the order of the numbers above, from OPEN on. */
        private static final String SIGNS = "()<=+-*;";

        private static final int MOST_LETTERS = 8;
        private static final int MOST_DIGITS = 4;

        private final char[] text;
        private int length = 0;
        final int[] kinds = new int[MOST_SIGNS + 1];
        final int[] places = new int[MOST_SIGNS + 1];
        /** Of a number what it is, of a word its letters. */
        final long[] details = new long[MOST_SIGNS + 1];
        int count = 0;

        Tokens(char[] text) {
            this.text = text;
        }

        void split(int signs) {
            length = Math.min(signs, text.length);
            count = 0;
            int end = 0;
            for (int i = 0; i < length; i++) {
                if (i >= end && !isBlank(text[i])) {
                    end = readToken(i);
                }
            }
            add(END, length, 0L);
        }

        private void add(int kind, int place, long detail) {
            if (count < kinds.length) {
                kinds[count] = kind;
                places[count] = place;
                details[count] = detail;
                count++;
            }
        }

        private int readToken(int place) {
            if (isLetter(text[place])) {
                return readWord(place);
            }
            if (isDigit(text[place])) {
                return readNumber(place);
            }
            int sign = SIGNS.indexOf(text[place]);
            add(sign < 0 ? NO_TOKEN : OPEN + sign, place, 0L);
            return place + 1;
        }

        /** Eight letters of five bits each fit in a long, so that no text need be made of a name. */
        private int readWord(int place) {
            int end = place;
            long letters = 0;
            for (int i = place; i < length && isLetter(text[i]); i++) {
                end = i + 1;
                letters = letters * 32 + (text[i] - 'a' + 1);
            }
            add(end - place > MOST_LETTERS ? NO_TOKEN : keyword(place, end), place, letters);
            return end;
        }

        private int readNumber(int place) {
            int end = place;
            long number = 0;
            for (int i = place; i < length && isDigit(text[i]); i++) {
                end = i + 1;
                number = number * 10 + (text[i] - '0');
            }
            add(end - place > MOST_DIGITS ? NO_TOKEN : NUMBER, place, number);
            return end;
        }

        private int keyword(int place, int end) {
            int keyword = THING;
            int from = 0;
            int signs = KEYWORDS.length();
            for (int i = 0; i <= signs; i++) {
                if (i == signs || KEYWORDS.charAt(i) == ' ') {
                    if (i - from == end - place && isKeyword(place, from, i)) {
                        return keyword;
                    }
                    keyword++;
                    from = i + 1;
                }
            }
            return NAME;
        }

        private boolean isKeyword(int place, int from, int to) {
            for (int i = from; i < to; i++) {
                if (KEYWORDS.charAt(i) != text[place + i - from]) {
                    return false;
                }
            }
            return true;
        }

        private static boolean isBlank(char c) {
            return c == 10 || c == ' ';
        }

        private static boolean isLetter(char c) {
            return c >= 'a' && c <= 'z';
        }

        private static boolean isDigit(char c) {
            return c >= '0' && c <= '9';
        }
    }

    /** Reads the tape as a village, up to its first fault. */
    private static final class Reader {
        private static final int MISPLACED = 1;
        private static final int UNKNOWN = 2;
        private static final int AGAIN = 3;
        private static final int AMISS = 4;
        private static final int TOO_MANY = 5;
        private static final int NOT_SIX = 6;
        private static final int MOST_AROUND = 5;

        private final Tokens tokens;
        private int at = 0;
        private int token = Tokens.END;
        private int fault = 0;
        private Village village = new Village();
        private final long[] thingNames = new long[MOST_THINGS];
        private final long[] sortNames = new long[MOST_SORTS];
        private final boolean[] chanceTold = new boolean[MOST_SORTS];
        private boolean lifeTold = false;
        private boolean springsTold = false;
        private boolean inWorth = false;
        private final int[] steps = new int[MOST_SIGNS];
        private int stepCount = 0;

        Reader(char[] text) {
            tokens = new Tokens(text);
        }

        int readInto(Village empty, int signs) {
            begin(empty);
            tokens.split(signs);
            token = tokens.kinds[0];
            boolean fine = true;
            for (int i = 0; i < tokens.count && fine && token != Tokens.END; i++) {
                fine = readSentence();
            }
            if (fine && village.sorts > 0 && chances() != SIX) {
                refuse(NOT_SIX);
            }
            if (fault == 0) {
                village.close();
            }
            return fault;
        }

        private void begin(Village empty) {
            village = empty;
            at = 0;
            fault = 0;
            lifeTold = false;
            springsTold = false;
            for (int sort = 0; sort < MOST_SORTS; sort++) {
                chanceTold[sort] = false;
            }
        }

        private int chances() {
            int sum = 0;
            for (int sort = 0; sort < village.sorts; sort++) {
                sum += village.chance[sort];
            }
            return sum;
        }

        private boolean refuse(int kind) {
            fault = kind + 16 * tokens.places[at];
            return false;
        }

        /** The end stays the token for good once it is reached. */
        private void advance() {
            if (at + 1 < tokens.count) {
                at++;
            }
            token = tokens.kinds[at];
        }

        private int number() {
            return (int) tokens.details[at];
        }

        private boolean readSentence() {
            switch (token) {
                case Tokens.THING:
                    return readThing();
                case Tokens.SORT:
                    return readSort();
                case Tokens.CHANCE:
                    return readChance();
                case Tokens.SPRING:
                    return readSpring();
                case Tokens.BAR:
                    return readBar();
                case Tokens.LIFE:
                    return readLife();
                case Tokens.SPRINGS:
                    return readSprings();
                default:
                    return refuse(MISPLACED);
            }
        }

        private boolean readThing() {
            int thing = village.things;
            if (thing >= MOST_THINGS) {
                return refuse(TOO_MANY);
            }
            advance();
            if (!isNewName()) {
                return false;
            }
            thingNames[thing] = tokens.details[at];
            advance();
            if (!take(Tokens.STATES) || !isNumber(2, MOST_STATES)) {
                return false;
            }
            village.states[thing] = number();
            advance();
            if (!take(Tokens.START) || !isNumber(0, village.states[thing] - 1)) {
                return false;
            }
            village.start[thing] = number();
            advance();
            if (!take(Tokens.COST) || !isNumber(0, 999)) {
                return false;
            }
            village.cost[thing] = number();
            advance();
            if (token == Tokens.STONE) {
                village.stone[thing] = true;
                advance();
            }
            village.things++;
            return take(Tokens.STOP);
        }

        private boolean readSort() {
            int sort = village.sorts;
            if (sort >= MOST_SORTS) {
                return refuse(TOO_MANY);
            }
            advance();
            if (!isNewName()) {
                return false;
            }
            sortNames[sort] = tokens.details[at];
            advance();
            if (!take(Tokens.WORTH) || !readFormula(true)) {
                return false;
            }
            village.worth[sort] = new Formula(Arrays.copyOf(steps, stepCount));
            village.sorts++;
            return take(Tokens.STOP);
        }

        private boolean readChance() {
            advance();
            if (token != Tokens.NAME) {
                return refuse(MISPLACED);
            }
            int sort = findName(sortNames, village.sorts);
            if (sort == NONE) {
                return refuse(UNKNOWN);
            }
            if (chanceTold[sort]) {
                return refuse(AGAIN);
            }
            chanceTold[sort] = true;
            advance();
            if (!isNumber(0, SIX)) {
                return false;
            }
            village.chance[sort] = number();
            advance();
            return take(Tokens.STOP);
        }

        private boolean readSpring() {
            advance();
            if (!isNumber(0, MOST_SPRINGS - 1)) {
                return false;
            }
            int spring = number();
            if (village.comes[spring] != UNTOLD) {
                return refuse(AGAIN);
            }
            advance();
            if (!take(Tokens.IS)) {
                return false;
            }
            if (token != Tokens.NOBODY && token != Tokens.NAME) {
                return refuse(MISPLACED);
            }
            int sort = token == Tokens.NOBODY ? NONE : findName(sortNames, village.sorts);
            if (token == Tokens.NAME && sort == NONE) {
                return refuse(UNKNOWN);
            }
            village.comes[spring] = sort;
            advance();
            return take(Tokens.STOP);
        }

        private boolean readBar() {
            if (village.bars >= MOST_BARS) {
                return refuse(TOO_MANY);
            }
            advance();
            if (!readFormula(false)) {
                return false;
            }
            village.bar[village.bars] = new Formula(Arrays.copyOf(steps, stepCount));
            village.bars++;
            return take(Tokens.STOP);
        }

        private boolean readLife() {
            if (lifeTold) {
                return refuse(AGAIN);
            }
            lifeTold = true;
            advance();
            if (!isNumber(1, MOST_LIFE)) {
                return false;
            }
            village.life = number();
            advance();
            return take(Tokens.STOP);
        }

        private boolean readSprings() {
            if (springsTold) {
                return refuse(AGAIN);
            }
            springsTold = true;
            advance();
            if (!isNumber(1, MOST_SPRINGS)) {
                return false;
            }
            village.springs = number();
            advance();
            return take(Tokens.STOP);
        }

        private boolean take(int kind) {
            if (token != kind) {
                return refuse(MISPLACED);
            }
            advance();
            return true;
        }

        private boolean isNumber(int least, int most) {
            if (token != Tokens.NUMBER) {
                return refuse(MISPLACED);
            }
            return number() >= least && number() <= most || refuse(AMISS);
        }

        private boolean isNewName() {
            if (token != Tokens.NAME) {
                return refuse(MISPLACED);
            }
            boolean known = findName(thingNames, village.things) != NONE
                    || findName(sortNames, village.sorts) != NONE;
            return !known || refuse(AGAIN);
        }

        private int findName(long[] names, int count) {
            for (int i = 0; i < count; i++) {
                if (names[i] == tokens.details[at]) {
                    return i;
                }
            }
            return NONE;
        }

        private boolean readFormula(boolean ofWorth) {
            inWorth = ofWorth;
            stepCount = 0;
            return readTests(0);
        }

        private void addStep(int kind, int detail) {
            if (stepCount < steps.length) {
                steps[stepCount] = kind + Formula.KINDS * detail;
                stepCount++;
            }
        }

        /** around: how many not and ( ) lie around what is read here; a PART refuses what would go deeper. */
        private boolean readTests(int around) {
            boolean fine = readTest(around);
            for (int i = 0; i < MOST_SIGNS && fine && (token == Tokens.AND || token == Tokens.OR); i++) {
                int kind = token == Tokens.AND ? Formula.AND : Formula.OR;
                advance();
                fine = readTest(around);
                addStep(kind, 0);
            }
            return fine;
        }

        private boolean readTest(int around) {
            if (!readSum(around)) {
                return false;
            }
            if (token != Tokens.LESS && token != Tokens.EQUAL) {
                return true;
            }
            int kind = token == Tokens.LESS ? Formula.LESS : Formula.EQUAL;
            advance();
            boolean fine = readSum(around);
            addStep(kind, 0);
            return fine;
        }

        private boolean readSum(int around) {
            boolean fine = readProduct(around);
            for (int i = 0; i < MOST_SIGNS && fine && (token == Tokens.PLUS || token == Tokens.MINUS); i++) {
                int kind = token == Tokens.PLUS ? Formula.PLUS : Formula.MINUS;
                advance();
                fine = readProduct(around);
                addStep(kind, 0);
            }
            return fine;
        }

        private boolean readProduct(int around) {
            boolean fine = readPart(around);
            for (int i = 0; i < MOST_SIGNS && fine && token == Tokens.TIMES; i++) {
                advance();
                fine = readPart(around);
                addStep(Formula.TIMES, 0);
            }
            return fine;
        }

        private boolean readPart(int around) {
            if (!beginsPart()) {
                return refuse(MISPLACED);
            }
            int thing = token == Tokens.NAME ? findName(thingNames, village.things) : NONE;
            if (token == Tokens.NAME && thing == NONE) {
                return refuse(UNKNOWN);
            }
            if (around >= MOST_AROUND) {
                return refuse(TOO_MANY);
            }
            if (token == Tokens.NOT) {
                advance();
                boolean fine = readPart(around + 1);
                addStep(Formula.NOT, 0);
                return fine;
            }
            if (token == Tokens.OPEN) {
                advance();
                return readTests(around + 1) && take(Tokens.CLOSE);
            }
            addLeaf(thing);
            advance();
            return true;
        }

        private boolean beginsPart() {
            boolean fact = inWorth && (token == Tokens.AGE || token == Tokens.SPRING);
            boolean leaf = fact || token == Tokens.NUMBER || token == Tokens.NAME;
            return leaf || token == Tokens.NOT || token == Tokens.OPEN;
        }

        private void addLeaf(int thing) {
            if (token == Tokens.NUMBER) {
                addStep(Formula.NUMBER, number());
            } else if (token == Tokens.NAME) {
                addStep(Formula.STATE, thing);
            } else {
                addStep(token == Tokens.AGE ? Formula.AGE : Formula.SPRING, 0);
            }
        }
    }

    /** What each one chooses; springs are solved from the last one back, and only so far as is asked. */
    private static final class Plan {
        private final Told now;
        private final int[] worths = new int[MOST_SPRINGS * MOST_SORTS * MOST_LIFE * MOST_WAYS];
        private final long[] sums = new long[MOST_SPRINGS * MOST_SORTS * MOST_LIFE * MOST_WAYS];
        private final int[] choices = new int[MOST_SPRINGS * MOST_SORTS * MOST_WAYS];
        private final long[] scores = new long[MOST_WAYS];
        private int worthsFrom = 0;
        private int solvedFrom = 0;

        Plan(Told now) {
            this.now = now;
        }

        void forgetAll() {
            worthsFrom = now.village.springs;
            solvedFrom = now.village.springs;
        }

        /** Worths do not hang on what may be done. */
        void forgetActs() {
            solvedFrom = now.village.springs;
        }

        /** What is chosen behind a spring does not hang on that spring. */
        void forgetUpTo(int spring) {
            solvedFrom = Math.max(solvedFrom, Math.min(spring + 1, now.village.springs));
        }

        /** To be called ahead of everything below that tells of this spring or a later one. */
        void solveFrom(int spring) {
            for (int s = worthsFrom - 1; s >= spring; s--) {
                reckonWorths(s);
            }
            worthsFrom = Math.min(worthsFrom, spring);
            for (int s = solvedFrom - 1; s >= spring; s--) {
                sumUp(s);
                choose(s);
            }
            solvedFrom = Math.min(solvedFrom, spring);
        }

        int choiceOf(int spring, int sort, int stands) {
            return choices[choiceAt(spring, sort, stands)];
        }

        /** The likely worths of one of an age for the springs from this one on, if it stands so at its end. */
        long sumOf(int spring, int sort, int age, int stands) {
            return sums[at(spring, sort, age, stands)];
        }

        int worthAt(int spring, int sort, int age, int stands) {
            return worths[at(spring, sort, age, stands)];
        }

        long valueWith(int spring, int sort, int stands, int then) {
            return sumOf(spring, sort, 0, then) - now.village.costOf(stands, then) * UNIT;
        }

        long valueOf(int spring, int sort, int stands) {
            return valueWith(spring, sort, stands, choiceOf(spring, sort, stands));
        }

        int plainChoice(int spring, int sort, int age, int stands) {
            beginScores(spring, stands);
            addScores(spring, sort, age);
            return bestByScores();
        }

        void beginScores(int spring, int stands) {
            now.gatherActs(spring, stands);
            Arrays.fill(scores, 0L);
        }

        /** Adds what each act is worth to one of an age if it stands so for all the springs left to her. */
        void addScores(int spring, int sort, int age) {
            int left = Math.min(now.village.life - age, now.village.springs - spring);
            for (int i = 0; i < left; i++) {
                for (int act = 0; act < now.actCount; act++) {
                    int then = now.acts[act];
                    scores[then] += worthAt(spring + i, sort, age + i, then) * UNIT;
                }
            }
        }

        int bestByScores() {
            return bestAct(scores, 0);
        }

        private static int at(int spring, int sort, int age, int stands) {
            return ((spring * MOST_SORTS + sort) * MOST_LIFE + age) * MOST_WAYS + stands;
        }

        private static int choiceAt(int spring, int sort, int stands) {
            return (spring * MOST_SORTS + sort) * MOST_WAYS + stands;
        }

        private void reckonWorths(int spring) {
            Village v = now.village;
            for (int sort = 0; sort < v.sorts; sort++) {
                for (int age = 0; age < v.life; age++) {
                    int from = at(spring, sort, age, 0);
                    for (int w = 0; w < v.ways; w++) {
                        worths[from + v.way[w]] = v.worthOf(sort, v.way[w], age, spring);
                    }
                }
            }
        }

        private void sumUp(int spring) {
            Village v = now.village;
            for (int sort = 0; sort < v.sorts; sort++) {
                for (int age = 0; age < v.life; age++) {
                    boolean goesOn = age + 1 < v.life && spring + 1 < v.springs;
                    int from = at(spring, sort, age, 0);
                    int next = goesOn ? at(spring + 1, sort, age + 1, 0) : 0;
                    for (int w = 0; w < v.ways; w++) {
                        int stands = v.way[w];
                        long later = goesOn ? likelyLater(spring + 1, stands, next) : 0L;
                        sums[from + stands] = worths[from + stands] * UNIT + later;
                    }
                }
            }
        }

        /** The sums of the next spring by the chances of who comes in it; they divide by six without rest. */
        private long likelyLater(int spring, int stands, int from) {
            Village v = now.village;
            long later = sums[from + stands] * v.chanceOfNobody(spring);
            for (int sort = 0; sort < v.sorts; sort++) {
                int chance = v.chanceIn(spring, sort);
                if (chance > 0) {
                    later += sums[from + choices[choiceAt(spring, sort, stands)]] * chance;
                }
            }
            return later / SIX;
        }

        private void choose(int spring) {
            Village v = now.village;
            for (int w = 0; w < v.ways; w++) {
                int stands = v.way[w];
                boolean pledged = now.isPledged(spring);
                int asPledged = now.standsIfDone(spring, stands, now.pledgeThing[spring], now.pledgeState[spring]);
                now.gatherActs(spring, stands);
                for (int sort = 0; sort < v.sorts; sort++) {
                    int then = pledged ? asPledged : bestAct(sums, at(spring, sort, 0, 0));
                    choices[choiceAt(spring, sort, stands)] = then;
                }
            }
        }

        /** The first of the gathered acts by which what is scored, less what it costs, is the greatest. */
        private int bestAct(long[] scored, int from) {
            int best = now.acts[0];
            long most = scored[from + best];
            for (int act = 1; act < now.actCount; act++) {
                long got = scored[from + now.acts[act]] - now.actCosts[act] * UNIT;
                if (got > most) {
                    most = got;
                    best = now.acts[act];
                }
            }
            return best;
        }
    }

    /** How it is likely to stand, from the start on, and what one may hope for of that. */
    private static final class Odds {
        private final Told now;
        private final Plan plan;
        private final long[] odds = new long[MOST_WAYS];
        private final long[] later = new long[MOST_WAYS];
        private long stirred = 0;

        Odds(Told now, Plan plan) {
            this.now = now;
            this.plan = plan;
        }

        long oddsOf(int stands) {
            return odds[stands];
        }

        long stirred() {
            return stirred;
        }

        void passAheadOf(int spring) {
            Arrays.fill(odds, 0L);
            odds[now.village.startStands()] = WHOLE;
            stirred = 0;
            for (int s = 0; s < spring; s++) {
                Arrays.fill(later, 0L);
                for (int stands = 0; stands < MOST_WAYS; stands++) {
                    spread(s, stands, odds[stands] / SIX);
                }
                System.arraycopy(later, 0, odds, 0, MOST_WAYS);
            }
        }

        long hopesOf(int spring, int sort) {
            passAheadOf(spring);
            long hopes = 0;
            for (int stands = 0; stands < MOST_WAYS; stands++) {
                if (odds[stands] > 0) {
                    hopes += odds[stands] * plan.valueOf(spring, sort, stands);
                }
            }
            return hopes;
        }

        private void spread(int spring, int stands, long sixth) {
            Village v = now.village;
            later[stands] += sixth * v.chanceOfNobody(spring);
            for (int sort = 0; sort < v.sorts; sort++) {
                long part = sixth * v.chanceIn(spring, sort);
                if (part > 0) {
                    int then = plan.choiceOf(spring, sort, stands);
                    later[then] += part;
                    stirred += then == stands ? 0 : part;
                }
            }
        }
    }

    /** A century of a seed by a rule: who came, who was asked, what was done. */
    private static final class Century {
        private final Told now;
        private final Plan plan;
        final int[] came = new int[MOST_SPRINGS];
        final int[] asked = new int[MOST_SPRINGS];
        final int[] changed = new int[MOST_SPRINGS];
        final int[] stood = new int[MOST_SPRINGS];
        private final int[] spent = new int[MOST_SPRINGS];
        int costs = 0;
        private long g = 0;

        Century(Told now, Plan plan) {
            this.now = now;
            this.plan = plan;
        }

        void run(int seed, int rule) {
            plan.solveFrom(0);
            g = seed;
            costs = 0;
            int stands = now.village.startStands();
            for (int spring = 0; spring < now.village.springs; spring++) {
                came[spring] = whoComes(spring);
                spent[spring] = 0;
                asked[spring] = whoIsAsked(spring, rule);
                int then = asked[spring] == NONE ? stands : answer(spring, rule, stands);
                changed[spring] = now.village.differing(stands, then);
                pay(asked[spring], rule, now.village.costOf(stands, then));
                stood[spring] = then;
                stands = then;
            }
        }

        int faresOf(int spring) {
            Village v = now.village;
            int sum = -spent[spring];
            int years = Math.min(v.life, v.springs - spring);
            for (int age = 0; age < years; age++) {
                sum += plan.worthAt(spring + age, came[spring], age, stood[spring + age]);
            }
            return sum;
        }

        int faresOfAll() {
            int sum = 0;
            for (int spring = 0; spring < now.village.springs; spring++) {
                if (came[spring] != NONE) {
                    sum += faresOf(spring);
                }
            }
            return sum;
        }

        int lasts() {
            int last = now.village.springs - 1;
            int lasts = 0;
            for (int spring = last; spring >= 0 && stood[spring] == stood[last]; spring--) {
                lasts++;
            }
            return lasts;
        }

        int timesBack() {
            int times = 0;
            for (int spring = 0; spring < now.village.springs; spring++) {
                if (changed[spring] != NONE && hadStoodSo(spring)) {
                    times++;
                }
            }
            return times;
        }

        int timesAsked(boolean theSameAlone) {
            int times = 0;
            for (int spring = 0; spring < now.village.springs; spring++) {
                if (asked[spring] != NONE && !(theSameAlone && changed[spring] != NONE)) {
                    times++;
                }
            }
            return times;
        }

        private boolean hadStoodSo(int spring) {
            int thing = changed[spring];
            int state = Village.stateOf(stood[spring], thing);
            boolean had = Village.stateOf(now.village.startStands(), thing) == state;
            for (int s = 0; s < spring; s++) {
                had = had || Village.stateOf(stood[s], thing) == state;
            }
            return had;
        }

        private int draw(int sides) {
            g = (g * 1103515245L + 12345L) % 2147483648L;
            return sides < 1 ? 0 : (int) (g / 65536L % sides);
        }

        private int whoComes(int spring) {
            Village v = now.village;
            if (v.comes[spring] != UNTOLD) {
                return v.comes[spring];
            }
            int rest = draw(SIX);
            for (int sort = 0; sort < v.sorts; sort++) {
                rest -= v.chance[sort];
                if (rest < 0) {
                    return sort;
                }
            }
            return NONE;
        }

        /** The spring in which the one who is asked came; by ALL that of the last of them. */
        private int whoIsAsked(int spring, int rule) {
            int life = now.village.life;
            switch (rule) {
                case AHEAD:
                case PLAIN:
                    return cameIn(spring);
                case ELDEST:
                    return cameIn(spring - life + 1);
                case LOTS:
                    return cameIn(spring - draw(life));
                case ALL:
                    return lastWhoCame(spring);
                default:
                    return NONE;
            }
        }

        private int cameIn(int spring) {
            return spring >= 0 && came[spring] != NONE ? spring : NONE;
        }

        private int lastWhoCame(int spring) {
            for (int age = 0; age < now.village.life; age++) {
                if (cameIn(spring - age) != NONE) {
                    return spring - age;
                }
            }
            return NONE;
        }

        private int answer(int spring, int rule, int stands) {
            if (now.isPledged(spring)) {
                return now.standsIfDone(spring, stands, now.pledgeThing[spring], now.pledgeState[spring]);
            }
            if (rule == AHEAD) {
                return plan.choiceOf(spring, came[spring], stands);
            }
            if (rule == ALL) {
                return answerOfAll(spring, stands);
            }
            int since = asked[spring];
            return plan.plainChoice(spring, came[since], spring - since, stands);
        }

        private int answerOfAll(int spring, int stands) {
            plan.beginScores(spring, stands);
            for (int age = 0; age < now.village.life; age++) {
                if (cameIn(spring - age) != NONE) {
                    plan.addScores(spring, came[spring - age], age);
                }
            }
            return plan.bestByScores();
        }

        private void pay(int since, int rule, int cost) {
            costs += cost;
            if (since != NONE && rule != ALL) {
                spent[since] += cost;
            }
        }
    }

    /** Judges the row that was told. */
    private static final class Judge {
        private final Told now;
        private final Plan plan;
        private final int[] stood = new int[MOST_SPRINGS];
        private final int[] wouldStand = new int[MOST_SPRINGS];
        int good = 0;
        int why = 0;

        Judge(Told now, Plan plan) {
            this.now = now;
            this.plan = plan;
        }

        /** good: how many rows lie ahead of the first that can't be. */
        void hear() {
            good = 0;
            why = 0;
            for (int i = 0; i < now.rows && why == 0; i++) {
                int stands = standsBehind();
                why = whyNot(i, stands);
                if (why == 0) {
                    stood[i] = now.standsIfDone(i, stands, now.rowThing[i], now.rowState[i]);
                    good++;
                }
            }
        }

        int standsBehind() {
            return good == 0 ? now.village.startStands() : stood[good - 1];
        }

        int didAsAhead() {
            int times = 0;
            for (int i = 0; i < good; i++) {
                int sort = now.rowSort[i];
                if (sort != NONE && plan.choiceOf(i, sort, standsAheadOf(i)) == stood[i]) {
                    times++;
                }
            }
            return times;
        }

        long likelyAbove() {
            long above = 1;
            for (int i = 0; i < good; i++) {
                int sort = now.rowSort[i];
                above *= sort == NONE ? now.village.chanceOfNobody(i) : now.village.chanceIn(i, sort);
            }
            return above;
        }

        long likelyBelow() {
            long below = 1;
            for (int i = 0; i < good; i++) {
                below *= SIX;
            }
            return below;
        }

        int faresOf(int spring) {
            int stands = standsAheadOf(spring);
            return worthsAlong(spring, stood) - now.village.costOf(stands, stood[spring]);
        }

        int lossOf(int spring) {
            int stands = standsAheadOf(spring);
            wouldStand[spring] = stands;
            for (int i = spring + 1; i < good; i++) {
                stands = now.standsIfDone(i, stands, now.rowThing[i], now.rowState[i]);
                wouldStand[i] = stands;
            }
            return worthsAlong(spring, wouldStand) - faresOf(spring);
        }

        private int standsAheadOf(int spring) {
            return spring == 0 ? now.village.startStands() : stood[spring - 1];
        }

        private int worthsAlong(int spring, int[] standing) {
            int years = Math.min(now.village.life, good - spring);
            int sum = 0;
            for (int age = 0; age < years; age++) {
                sum += plan.worthAt(spring + age, now.rowSort[spring], age, standing[spring + age]);
            }
            return sum;
        }

        private int whyNot(int spring, int stands) {
            int sort = now.rowSort[spring];
            int thing = now.rowThing[spring];
            int state = now.rowState[spring];
            if (!now.village.hasSpring(spring)) {
                return 1;
            }
            if (!couldCome(spring, sort)) {
                return 2;
            }
            if (thing == NONE) {
                return 0;
            }
            if (sort == NONE || !now.village.hasState(thing, state)) {
                return 3;
            }
            return now.allows(spring, stands, thing, state) ? 0 : 4;
        }

        /** Where nothing is told somebody comes: nobody can come only where that is told. */
        private boolean couldCome(int spring, int sort) {
            if (sort == NONE) {
                return now.village.comes[spring] == NONE;
            }
            return now.village.hasSort(sort) && now.village.chanceIn(spring, sort) > 0;
        }
    }

    /** The best present so far; the first one offered stays among equal ones. */
    private static final class Present {
        boolean any = false;
        long left = 0;
        int then = 0;
        int sort = 0;
        int age = 0;

        void offer(long offeredLeft, int offeredThen, int offeredSort, int offeredAge) {
            if (!any || offeredLeft > left) {
                any = true;
                left = offeredLeft;
                then = offeredThen;
                sort = offeredSort;
                age = offeredAge;
            }
        }
    }
}
