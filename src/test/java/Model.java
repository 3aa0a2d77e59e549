import java.math.BigInteger;
import java.util.ArrayList;
import java.util.Arrays;
import java.util.HashMap;
import java.util.List;
import java.util.Map;
import java.util.NoSuchElementException;
import java.util.TreeMap;

/** The document once more, as plainly as it can be written: fractions, maps and no thought of speed. */
final class Model {
    static final int UNTOLD = -2;

    /** A fraction that is always in lowest terms. */
    static final class Part implements Comparable<Part> {
        static final Part ZERO = of(0);
        final BigInteger above;
        final BigInteger below;

        Part(BigInteger above, BigInteger below) {
            BigInteger g = above.gcd(below);
            this.above = above.divide(g);
            this.below = below.divide(g);
        }

        static Part of(long n) {
            return new Part(BigInteger.valueOf(n), BigInteger.ONE);
        }

        static Part of(long a, long b) {
            return new Part(BigInteger.valueOf(a), BigInteger.valueOf(b));
        }

        Part plus(Part o) {
            return new Part(above.multiply(o.below).add(o.above.multiply(below)), below.multiply(o.below));
        }

        Part minus(Part o) {
            return plus(o.times(of(-1)));
        }

        Part times(Part o) {
            return new Part(above.multiply(o.above), below.multiply(o.below));
        }

        long tell(int what) {
            return (what == 0 ? above : below).longValueExact();
        }

        @Override
        public int compareTo(Part o) {
            return above.multiply(o.below).compareTo(o.above.multiply(below));
        }
    }

    static final class Thing {
        String name;
        int states;
        int start;
        int cost;
        boolean stone;
    }

    static final class Sort {
        String name;
        Node worth;
        int chance;
        boolean chanceTold;
    }

    /** A tree of an E; op is a number, a thing's number behind t, age, spring, or what joins. */
    static final class Node {
        final String op;
        final Node a;
        final Node b;

        Node(String op, Node a, Node b) {
            this.op = op;
            this.a = a;
            this.b = b;
        }

        int reckon(int stands, int age, int spring) {
            if (op.charAt(0) >= '0' && op.charAt(0) <= '9') {
                return Integer.parseInt(op);
            }
            switch (op) {
                case "age":
                    return age;
                case "spring":
                    return spring;
                case "t0":
                    return stands % 3;
                case "t1":
                    return stands / 3 % 3;
                case "t2":
                    return stands / 9;
                case "not":
                    return a.reckon(stands, age, spring) == 0 ? 1 : 0;
                default:
                    break;
            }
            int x = a.reckon(stands, age, spring);
            int y = b.reckon(stands, age, spring);
            switch (op) {
                case "and":
                    return x != 0 && y != 0 ? 1 : 0;
                case "or":
                    return x != 0 || y != 0 ? 1 : 0;
                case "<":
                    return x < y ? 1 : 0;
                case "=":
                    return x == y ? 1 : 0;
                case "+":
                    return x + y;
                case "-":
                    return x - y;
                case "*":
                    return x * y;
                default:
                    throw new IllegalStateException(op);
            }
        }
    }

    List<Thing> things = new ArrayList<>();
    List<Sort> sorts = new ArrayList<>();
    List<Node> bars = new ArrayList<>();
    int[] comes = new int[16];
    int life = 4;
    int springs = 8;
    int[] question = new int[16];
    int[][] pledge = new int[16][];
    boolean[] stone = new boolean[3];
    List<int[]> rows = new ArrayList<>();
    Map<String, Object> memo = new HashMap<>();

    Model() {
        Arrays.fill(comes, UNTOLD);
        Arrays.fill(question, -1);
    }

    Model copy() {
        Model m = new Model();
        m.things = things;
        m.sorts = sorts;
        m.bars = bars;
        m.comes = comes;
        m.life = life;
        m.springs = springs;
        m.question = question.clone();
        m.pledge = pledge.clone();
        m.stone = stone.clone();
        m.rows = new ArrayList<>(rows);
        return m;
    }

    static void need(boolean ok) {
        if (!ok) {
            throw new NoSuchElementException();
        }
    }

    static int[] digits(int stands) {
        return new int[] {stands % 3, stands / 3 % 3, stands / 9 % 3};
    }

    static int number(int[] digits) {
        return digits[0] + 3 * digits[1] + 9 * digits[2];
    }

    boolean canStand(int stands) {
        if (stands < 0 || stands > 26) {
            return false;
        }
        int[] d = digits(stands);
        for (int t = 0; t < 3; t++) {
            if (d[t] >= (t < things.size() ? things.get(t).states : 1)) {
                return false;
            }
        }
        return true;
    }

    int start() {
        int[] d = new int[3];
        for (int t = 0; t < things.size(); t++) {
            d[t] = things.get(t).start;
        }
        return number(d);
    }

    boolean isSpring(int s) {
        return s >= 0 && s < springs;
    }

    boolean isSort(int k) {
        return k >= 0 && k < sorts.size();
    }

    boolean isThing(int t) {
        return t >= 0 && t < things.size();
    }

    boolean isState(int t, int v) {
        return isThing(t) && v >= 0 && v < things.get(t).states;
    }

    int worthOf(int k, int stands, int age, int s) {
        int w = sorts.get(k).worth.reckon(stands, age, s);
        return w < -9999 ? -9999 : w > 9999 ? 9999 : w;
    }

    static int with(int stands, int t, int v) {
        int[] d = digits(stands);
        d[t] = v;
        return number(d);
    }

    boolean allowed(int s, int stands, int t, int v) {
        int at = digits(stands)[t];
        if (at == v) {
            return true;
        }
        if (question[s] != -1 && question[s] != t) {
            return false;
        }
        if (stone[t] && at != things.get(t).start) {
            return false;
        }
        for (Node bar : bars) {
            if (bar.reckon(with(stands, t, v), 0, 0) != 0) {
                return false;
            }
        }
        return true;
    }

    /** The acts that may be done, THE SAME first, each as how it stands then. */
    List<Integer> acts(int s, int stands) {
        List<Integer> acts = new ArrayList<>();
        acts.add(stands);
        for (int t = 0; t < things.size(); t++) {
            for (int v = 0; v < things.get(t).states; v++) {
                if (digits(stands)[t] != v && allowed(s, stands, t, v)) {
                    acts.add(with(stands, t, v));
                }
            }
        }
        return acts;
    }

    int cost(int stands, int then) {
        int t = changedThing(stands, then);
        return t < 0 ? 0 : things.get(t).cost;
    }

    static int changedThing(int stands, int then) {
        for (int t = 0; t < 3; t++) {
            if (digits(stands)[t] != digits(then)[t]) {
                return t;
            }
        }
        return -1;
    }

    int asPledged(int s, int stands) {
        int[] p = pledge[s];
        return allowed(s, stands, p[0], p[1]) ? with(stands, p[0], p[1]) : stands;
    }

    /** How many of six times this one (-1: nobody) comes. */
    int chance(int s, int k) {
        if (comes[s] != UNTOLD) {
            return comes[s] == k ? 6 : 0;
        }
        if (k == -1) {
            return sorts.isEmpty() ? 6 : 0;
        }
        return sorts.get(k).chance;
    }

    int ahead(int s, int k, int stands) {
        String key = "c" + s + "," + k + "," + stands;
        if (!memo.containsKey(key)) {
            int best = stands;
            if (pledge[s] != null) {
                best = asPledged(s, stands);
            } else {
                Part most = null;
                for (int then : acts(s, stands)) {
                    Part got = valueWith(s, k, stands, then);
                    if (most == null || got.compareTo(most) > 0) {
                        most = got;
                        best = then;
                    }
                }
            }
            memo.put(key, best);
        }
        return (Integer) memo.get(key);
    }

    /** The likely worths from the end of this spring on for one of that age. */
    Part later(int s, int k, int age, int stands) {
        if (age >= life || s >= springs) {
            return Part.ZERO;
        }
        String key = "l" + s + "," + k + "," + age + "," + stands;
        if (!memo.containsKey(key)) {
            Part sum = Part.of(worthOf(k, stands, age, s));
            if (s + 1 < springs && age + 1 < life) {
                for (int j = -1; j < sorts.size(); j++) {
                    int c = chance(s + 1, j);
                    if (c > 0) {
                        int then = j < 0 ? stands : ahead(s + 1, j, stands);
                        sum = sum.plus(later(s + 1, k, age + 1, then).times(Part.of(c, 6)));
                    }
                }
            }
            memo.put(key, sum);
        }
        return (Part) memo.get(key);
    }

    Part valueWith(int s, int k, int stands, int then) {
        return later(s, k, 0, then).minus(Part.of(cost(stands, then)));
    }

    Part valueOf(int s, int k, int stands) {
        return valueWith(s, k, stands, ahead(s, k, stands));
    }

    /** who: sort and age of each who is asked; the first of the greatest. */
    int plain(int s, int stands, List<int[]> who) {
        int best = stands;
        long most = Long.MIN_VALUE;
        for (int then : acts(s, stands)) {
            long got = -cost(stands, then);
            for (int[] one : who) {
                for (int i = 0; one[1] + i < life && s + i < springs; i++) {
                    got += worthOf(one[0], then, one[1] + i, s + i);
                }
            }
            if (got > most) {
                most = got;
                best = then;
            }
        }
        return best;
    }

    Map<Integer, Part> oddsAhead(int s) {
        Map<Integer, Part> odds = new TreeMap<>();
        odds.put(start(), Part.of(1));
        for (int i = 0; i < s; i++) {
            Map<Integer, Part> next = new TreeMap<>();
            for (Map.Entry<Integer, Part> e : odds.entrySet()) {
                for (int j = -1; j < sorts.size(); j++) {
                    if (chance(i, j) > 0) {
                        int then = j < 0 ? e.getKey() : ahead(i, j, e.getKey());
                        next.merge(then, e.getValue().times(Part.of(chance(i, j), 6)), Part::plus);
                    }
                }
            }
            odds = next;
        }
        return odds;
    }

    Part stirOf(int s) {
        Part sum = Part.ZERO;
        for (int i = 0; i <= s; i++) {
            for (Map.Entry<Integer, Part> e : oddsAhead(i).entrySet()) {
                for (int j = 0; j < sorts.size(); j++) {
                    if (chance(i, j) > 0 && ahead(i, j, e.getKey()) != e.getKey()) {
                        sum = sum.plus(e.getValue().times(Part.of(chance(i, j), 6)));
                    }
                }
            }
        }
        return sum;
    }

    Part hopesOf(int s, int k) {
        Part sum = Part.ZERO;
        for (Map.Entry<Integer, Part> e : oddsAhead(s).entrySet()) {
            sum = sum.plus(e.getValue().times(valueOf(s, k, e.getKey())));
        }
        return sum;
    }

    // ---- the face

    int thing(int t, int what) {
        if (!isThing(t) || what < 0 || what > 3) {
            return -1;
        }
        Thing x = things.get(t);
        return new int[] {x.states, x.start, x.cost, stone[t] ? 1 : 0}[what];
    }

    int worth(int k, int stands, int age, int s) {
        need(isSort(k) && canStand(stands) && age >= 0 && age <= 5 && s >= 0 && s <= 15);
        return worthOf(k, stands, age, s);
    }

    int may(int s, int stands, int t, int v) {
        return !isSpring(s) || !canStand(stands) || !isState(t, v) ? -1 : allowed(s, stands, t, v) ? 1 : 0;
    }

    int chooses(int s, int k, int stands, boolean ahead) {
        if (!isSpring(s) || !isSort(k) || !canStand(stands)) {
            return -1;
        }
        return ahead ? ahead(s, k, stands) : plain(s, stands, List.of(new int[] {k, 0}));
    }

    long value(int s, int k, int stands, int what) {
        need(isSpring(s) && isSort(k) && canStand(stands) && (what == 0 || what == 1));
        return valueOf(s, k, stands).tell(what);
    }

    boolean ask(int s, int t) {
        if (s < 0 || s > 15 || t != -1 && !isThing(t)) {
            return false;
        }
        question[s] = t;
        memo.clear();
        return true;
    }

    boolean pledge(int s, int t, int v) {
        if (s < 0 || s > 15 || t != -1 && !isState(t, v)) {
            return false;
        }
        pledge[s] = t == -1 ? null : new int[] {t, v};
        memo.clear();
        return true;
    }

    boolean stone(int t, boolean yes) {
        if (!isThing(t)) {
            return false;
        }
        stone[t] = yes;
        memo.clear();
        return true;
    }

    long odds(int s, int stands, int what) {
        need(s >= 0 && s <= 6 && s < springs && canStand(stands) && (what == 0 || what == 1) && !sorts.isEmpty());
        return oddsAhead(s + 1).getOrDefault(stands, Part.ZERO).tell(what);
    }

    long stir(int s, int what) {
        need(s >= 0 && s <= 6 && s < springs && (what == 0 || what == 1) && !sorts.isEmpty());
        return stirOf(s).tell(what);
    }

    int settled(int stands) {
        if (!canStand(stands)) {
            return -1;
        }
        for (int s = 0; s < springs; s++) {
            for (int k = 0; k < sorts.size(); k++) {
                if (chance(s, k) > 0 && ahead(s, k, stands) != stands) {
                    return 0;
                }
            }
        }
        return 1;
    }

    Part priceOf(int s, int k, int stands, int then) {
        need(isSpring(s) && isSort(k) && canStand(stands) && canStand(then) && pledge[s] == null);
        need(acts(s, stands).contains(then));
        return valueOf(s, k, stands).minus(valueWith(s, k, stands, then));
    }

    long price(int s, int k, int stands, int then, int what) {
        need(what == 0 || what == 1);
        return priceOf(s, k, stands, then).tell(what);
    }

    Part gainOf(int s, int k, int stands, int then, int other, int age) {
        priceOf(s, k, stands, then);
        need(isSort(other) && age >= 1 && age <= life - 1);
        return later(s, other, age, then).minus(later(s, other, age, ahead(s, k, stands)));
    }

    long gain(int s, int k, int stands, int then, int other, int age, int what) {
        need(what == 0 || what == 1);
        return gainOf(s, k, stands, then, other, age).tell(what);
    }

    long lets(int s, int k, int stands, int then, int other, int age, int what) {
        need(what == 0 || what == 1);
        return gainOf(s, k, stands, then, other, age).minus(priceOf(s, k, stands, then)).tell(what);
    }

    long present(int s, int k, int stands, int what) {
        need(isSpring(s) && isSort(k) && canStand(stands) && what >= 0 && what <= 4);
        need(pledge[s] == null && life > 1);
        Part most = null;
        int[] best = null;
        for (int then : acts(s, stands)) {
            for (int other = 0; other < sorts.size(); other++) {
                for (int age = 1; age < life; age++) {
                    Part got = gainOf(s, k, stands, then, other, age).minus(priceOf(s, k, stands, then));
                    if (most == null || got.compareTo(most) > 0) {
                        most = got;
                        best = new int[] {then, other, age};
                    }
                }
            }
        }
        return what < 3 ? best[what] : most.tell(what - 3);
    }

    long hopes(int s, int k, int what) {
        need(s >= 0 && s <= 6 && s < springs && isSort(k) && (what == 0 || what == 1));
        return hopesOf(s, k).tell(what);
    }

    long vow(int s, int k, int what) {
        need(s >= 0 && s <= 6 && s < springs && isSort(k) && what >= 0 && what <= 2 && !things.isEmpty());
        Model bare = copy();
        bare.pledge(s, -1, 0);
        Part without = bare.hopesOf(s, k);
        Part most = null;
        int best = -1;
        for (int t = 0; t < things.size(); t++) {
            for (int v = 0; v < things.get(t).states; v++) {
                Model m = copy();
                m.pledge(s, t, v);
                Part got = m.hopesOf(s, k);
                if (most == null || got.compareTo(most) > 0) {
                    most = got;
                    best = t * 3 + v;
                }
            }
        }
        return what == 0 ? best : most.minus(without).tell(what - 1);
    }

    long bind(int t, int s, int k, int stands, int what) {
        need(isThing(t) && isSpring(s) && isSort(k) && canStand(stands) && (what == 0 || what == 1));
        Model bound = copy();
        bound.stone(t, true);
        Model loose = copy();
        loose.stone(t, false);
        return bound.valueOf(s, k, stands).minus(loose.valueOf(s, k, stands)).tell(what);
    }

    long order(int a, int b, int s, int k, int stands, int what) {
        need(isThing(a) && isThing(b) && a != b && isSpring(s) && s + 1 < springs);
        need(isSort(k) && canStand(stands) && (what == 0 || what == 1));
        Model straight = copy();
        straight.ask(s, a);
        straight.ask(s + 1, b);
        Model turned = copy();
        turned.ask(s, b);
        turned.ask(s + 1, a);
        return straight.valueOf(s, k, stands).minus(turned.valueOf(s, k, stands)).tell(what);
    }

    /** Of each spring: how it stood, who came, whose word it was, what was changed, what it cost. */
    int[][] chronicle(int seed, int rule) {
        int[][] all = new int[springs][];
        BigInteger g = BigInteger.valueOf(seed);
        int stands = start();
        for (int s = 0; s < springs; s++) {
            int came = comes[s];
            if (came == UNTOLD) {
                g = next(g);
                int rest = draw(g, 6);
                came = 0;
                while (rest >= sorts.get(came).chance) {
                    rest -= sorts.get(came).chance;
                    came++;
                }
            }
            all[s] = new int[] {stands, came, -1, -1, 0};
            int since = -1;
            if (rule <= 1) {
                since = s;
            } else if (rule == 2) {
                since = s - (life - 1);
            } else if (rule == 3) {
                g = next(g);
                since = s - draw(g, life);
            } else if (rule == 4) {
                for (int i = Math.max(0, s - life + 1); i <= s; i++) {
                    since = all[i][1] >= 0 ? i : since;
                }
            }
            if (since >= 0 && all[since][1] >= 0) {
                all[s][2] = since;
                int then = answer(all, s, rule, since, stands);
                all[s][3] = changedThing(stands, then);
                all[s][4] = cost(stands, then);
                stands = then;
            }
            all[s][0] = stands;
        }
        return all;
    }

    private int answer(int[][] all, int s, int rule, int since, int stands) {
        if (pledge[s] != null) {
            return asPledged(s, stands);
        }
        if (rule == 0) {
            return ahead(s, all[s][1], stands);
        }
        List<int[]> who = new ArrayList<>();
        for (int i = rule == 4 ? Math.max(0, s - life + 1) : since; i <= (rule == 4 ? s : since); i++) {
            if (all[i][1] >= 0) {
                who.add(new int[] {all[i][1], s - i});
            }
        }
        return plain(s, stands, who);
    }

    private static BigInteger next(BigInteger g) {
        return g.multiply(BigInteger.valueOf(1103515245)).add(BigInteger.valueOf(12345))
                .mod(BigInteger.ONE.shiftLeft(31));
    }

    private static int draw(BigInteger g, int sides) {
        return g.shiftRight(16).mod(BigInteger.valueOf(sides)).intValue();
    }

    private void needCentury(int seed, int rule) {
        need(seed >= 0 && seed <= 9999 && rule >= 0 && rule <= 5 && !sorts.isEmpty());
    }

    int century(int seed, int rule, int s, int what) {
        needCentury(seed, rule);
        need(isSpring(s) && what >= 0 && what <= 3);
        return chronicle(seed, rule)[s][what];
    }

    int faresIn(int[][] all, int rule, int s) {
        int sum = 0;
        for (int i = 0; i < springs; i++) {
            if (i >= s && i < s + life) {
                sum += worthOf(all[s][1], all[i][0], i - s, i);
            }
            if (rule != 4 && all[i][2] == s) {
                sum -= all[i][4];
            }
        }
        return sum;
    }

    int fares(int seed, int rule, int s) {
        needCentury(seed, rule);
        need(isSpring(s));
        int[][] all = chronicle(seed, rule);
        need(all[s][1] >= 0);
        return faresIn(all, rule, s);
    }

    int allFares(int seed, int rule) {
        int[][] all = chronicle(seed, rule);
        int sum = 0;
        for (int s = 0; s < springs; s++) {
            sum += all[s][1] >= 0 ? faresIn(all, rule, s) : 0;
        }
        return sum;
    }

    int told(int seed, int rule, int what) {
        needCentury(seed, rule);
        need(what >= 0 && what <= 5);
        int[][] all = chronicle(seed, rule);
        int lasts = 0;
        while (lasts < springs && all[springs - 1 - lasts][0] == all[springs - 1][0]) {
            lasts++;
        }
        int back = 0;
        int same = 0;
        int asked = 0;
        int costs = 0;
        for (int s = 0; s < springs; s++) {
            int t = all[s][3];
            asked += all[s][2] >= 0 ? 1 : 0;
            same += all[s][2] >= 0 && t < 0 ? 1 : 0;
            costs += all[s][4];
            if (t >= 0) {
                List<Integer> before = new ArrayList<>();
                before.add(digits(start())[t]);
                for (int i = 0; i < s; i++) {
                    before.add(digits(all[i][0])[t]);
                }
                back += before.contains(digits(all[s][0])[t]) ? 1 : 0;
            }
        }
        return new int[] {lasts, back, allFares(seed, rule), same, asked, costs}[what];
    }

    int bestRule(int seeds) {
        if (seeds < 1 || seeds > 12 || sorts.isEmpty()) {
            return -1;
        }
        int best = -1;
        long most = Long.MIN_VALUE;
        for (int rule = 0; rule <= 5; rule++) {
            long sum = 0;
            for (int seed = 0; seed < seeds; seed++) {
                sum += allFares(seed, rule);
            }
            if (sum > most) {
                most = sum;
                best = rule;
            }
        }
        return best;
    }

    private boolean setOut(int n) {
        if (n < 1 || n > 3 || n > springs || sorts.isEmpty()) {
            return false;
        }
        for (int s = 0; s < n; s++) {
            if (comes[s] == UNTOLD) {
                return false;
            }
        }
        return true;
    }

    private List<Model> byRows(int n) {
        List<Model> all = new ArrayList<>();
        all.add(copy());
        for (int s = 0; s < n; s++) {
            List<Model> more = new ArrayList<>();
            for (Model m : all) {
                for (int t = -1; t < things.size(); t++) {
                    Model next = m.copy();
                    next.ask(s, t);
                    more.add(next);
                }
            }
            all = more;
        }
        return all;
    }

    private List<Integer> ends(int n) {
        List<Integer> ends = new ArrayList<>();
        for (Model m : byRows(n)) {
            int stands = m.start();
            for (int s = 0; s < n; s++) {
                stands = comes[s] < 0 ? stands : m.ahead(s, comes[s], stands);
            }
            ends.add(stands);
        }
        return ends;
    }

    int brought(int n) {
        return setOut(n) ? (int) ends(n).stream().distinct().count() : -1;
    }

    int rowFor(int n, int stands) {
        return setOut(n) ? ends(n).indexOf(stands) : -1;
    }

    int bestRow(int n, int k) {
        if (!setOut(n) || !isSort(k)) {
            return -1;
        }
        List<Model> all = byRows(n);
        int best = 0;
        for (int i = 1; i < all.size(); i++) {
            if (all.get(i).valueOf(0, k, start()).compareTo(all.get(best).valueOf(0, k, start())) > 0) {
                best = i;
            }
        }
        return best;
    }

    int row(int k, int t, int v) {
        if (rows.size() == 16) {
            return -1;
        }
        rows.add(new int[] {k, t, v});
        return rows.size();
    }

    boolean clear() {
        rows.clear();
        return true;
    }

    private int why(int i, int stands) {
        int k = rows.get(i)[0];
        int t = rows.get(i)[1];
        int v = rows.get(i)[2];
        if (i >= springs) {
            return 1;
        }
        if (k == -1 ? comes[i] != -1 : !isSort(k) || chance(i, k) == 0) {
            return 2;
        }
        if (t != -1 && (k == -1 || !isState(t, v))) {
            return 3;
        }
        return t != -1 && !allowed(i, stands, t, v) ? 4 : 0;
    }

    /** Of each row that can be: how it stands behind; at the end why the next one can't be, or 0. */
    private List<Integer> hear() {
        List<Integer> stood = new ArrayList<>();
        int stands = start();
        for (int i = 0; i < rows.size(); i++) {
            int why = why(i, stands);
            if (why != 0) {
                stood.add(why);
                return stood;
            }
            stands = rows.get(i)[1] == -1 ? stands : with(stands, rows.get(i)[1], rows.get(i)[2]);
            stood.add(stands);
        }
        stood.add(0);
        return stood;
    }

    long judged(int what) {
        need(what >= 0 && what <= 5 && !sorts.isEmpty());
        List<Integer> stood = hear();
        int good = stood.size() - 1;
        int why = stood.get(good);
        int did = 0;
        int stands = start();
        Part likely = Part.of(1);
        for (int i = 0; i < good; i++) {
            int k = rows.get(i)[0];
            did += k >= 0 && ahead(i, k, stands) == stood.get(i) ? 1 : 0;
            likely = likely.times(Part.of(chance(i, k), 6));
            stands = stood.get(i);
        }
        switch (what) {
            case 0:
                return why == 0 ? -1 : good;
            case 1:
                return why;
            case 2:
                return stands;
            case 3:
                return did;
            default:
                return likely.tell(what - 4);
        }
    }

    int rowFares(int s, boolean loss) {
        List<Integer> stood = hear();
        int good = stood.size() - 1;
        need(s >= 0 && s < good && rows.get(s)[0] >= 0);
        int ahead = s == 0 ? start() : stood.get(s - 1);
        int fares = -cost(ahead, stood.get(s));
        int other = 0;
        int stands = ahead;
        for (int i = s; i < good; i++) {
            int t = rows.get(i)[1];
            int v = rows.get(i)[2];
            if (i > s && t >= 0 && allowed(i, stands, t, v)) {
                stands = with(stands, t, v);
            }
            if (i - s < life) {
                fares += worthOf(rows.get(s)[0], stood.get(i), i - s, i);
                other += worthOf(rows.get(s)[0], stands, i - s, i);
            }
        }
        return loss ? other - fares : fares;
    }

    long when(int k, int what) {
        need(isSort(k) && what >= 0 && what <= 2);
        int best = -1;
        for (int s = 0; s <= 6 && s < springs; s++) {
            if (chance(s, k) > 0 && (best < 0 || hopesOf(s, k).compareTo(hopesOf(best, k)) > 0)) {
                best = s;
            }
        }
        need(best >= 0);
        return what == 0 ? best : hopesOf(best, k).tell(what - 1);
    }

    int count(int what) {
        int ways = 1;
        for (Thing t : things) {
            ways *= t.states;
        }
        int told = 0;
        int pledges = 0;
        int questions = 0;
        for (int s = 0; s < 16; s++) {
            told += comes[s] != UNTOLD ? 1 : 0;
            pledges += pledge[s] != null ? 1 : 0;
            questions += question[s] != -1 ? 1 : 0;
        }
        int[] all = {things.size(), sorts.size(), springs, life, ways, start(), bars.size(), told, pledges, questions,
            0, rows.size()};
        return what < 0 || what > 11 ? -1 : all[what];
    }
}
