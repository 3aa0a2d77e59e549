/** The edges of promises 15 to 29: prices and presents, hopes and vows, centuries, what questions bring about. */
final class EdgesOfWeighing extends Edges {
    /** Two things of 2 and 3 states: not all numbers between can be. */
    private static final String GAPS = "thing a states 2 start 0 cost 1 ; thing b states 3 start 0 cost 1 ;"
            + " sort kim worth a + b ; chance kim 6 ; sort lee worth 3 - a ; life 3 ; springs 16 ;";
    private static final int[] WAYS = {0, 1, 3, 4, 6, 7};
    private static final String SORT = "sort kim worth 1 ; chance kim 6 ; ";
    private static final String THING = "thing a states 2 start 0 cost 0 ; ";

    private EdgesOfWeighing() {
    }

    /** What a call that only looks must leave as it was. */
    private static long looksOf(LastWord x) {
        long all = x.count(8) * 100 + x.count(9);
        for (int s = 0; s < 3; s++) {
            all = all * 31 + x.chooses(s, 0, 0, true) * 5 + x.may(s, 0, 0, 1) * 3 + x.may(s, 0, 1, 1);
        }
        return all * 31 + x.thing(0, 3) * 2 + x.thing(1, 3);
    }

    // ---- promises 15 to 18

    @Edge(of = "Promise 15", says = "PRICE of the act that brings it to another HOW IT STANDS (or the same), what 0: above, 1: below."
            + " NoSuchElementException: others")
    static void priceOthers() {
        LastWord x = Tape.of(GAPS);
        span("price, SPRING", 0, 15, THROWS, s -> x.price(s, 0, 0, 0, 0));
        span("price, sort", 0, 1, THROWS, k -> x.price(0, k, 0, 0, 0));
        ways("price, HOW IT STANDS, the same", THROWS, h -> x.price(0, 0, h, h, 0), WAYS);
        ways("price, then, by one THING", THROWS, h -> x.price(0, 0, 0, h, 0), 0, 1, 3, 6);
        ways("price, HOW IT STANDS, by one THING", THROWS, h -> x.price(0, 0, h, 7, 0), 1, 4, 6, 7);
        span("price, what", 0, 1, THROWS, w -> x.price(0, 0, 0, 0, w));
        LastWord none = Tape.of(THING);
        none("price, no sort", () -> none.price(0, 0, 0, 0, 0));
        LastWord things = Tape.of(SORT);
        part("price, no THING, the same", w -> things.price(0, 0, 0, 0, w), 0, 1);
    }

    @Edge(of = "Promise 15", says = "she may not do it")
    static void priceOfWhatMayNotBeDone() {
        LastWord x = Tape.of(GAPS + " bar a = 1 and b = 2 ;");
        none("barred", () -> x.price(0, 0, 1, 7, 0));
        answered("out of what is barred", 1, THROWS, h -> x.price(0, 0, 7, h, 0));
        answered("barred, the same", 7, THROWS, h -> x.price(0, 0, 7, h, 0));
        none("two at once", () -> x.price(0, 0, 0, 4, 0));
        x.ask(0, 1);
        none("another QUESTION", () -> x.price(0, 0, 0, 1, 0));
        answered("the QUESTION", 3, THROWS, h -> x.price(0, 0, 0, h, 0));
        answered("another QUESTION, the same", 0, THROWS, h -> x.price(0, 0, 0, h, 0));
        x.stone(1, true);
        none("of stone, off its start", () -> x.price(0, 0, 3, 0, 0));
        answered("of stone, the same", 3, THROWS, h -> x.price(0, 0, 3, h, 0));
        answered("of stone, at its start", 6, THROWS, h -> x.price(0, 0, 0, h, 0));
    }

    @Edge(of = "Promise 15", says = "a PLEDGE in that SPRING")
    static void priceUnderAPledge() {
        LastWord x = Tape.of(GAPS);
        x.pledge(1, 0, 0);
        none("the same", () -> x.price(1, 0, 0, 0, 0));
        none("as pledged", () -> x.price(1, 0, 1, 0, 0));
        none("otherwise", () -> x.price(1, 0, 0, 3, 0));
        answered("the SPRING ahead of it", 0, THROWS, s -> x.price(s, 0, 0, 0, 0));
        answered("the SPRING behind it", 2, THROWS, s -> x.price(s, 0, 0, 0, 0));
        x.pledge(1, -1, 0);
        answered("none any more", 1, THROWS, s -> x.price(s, 0, 0, 0, 0));
    }

    @Edge(of = "Promise 16", says = "GAIN of one of a sort and AGE, what 0: above, 1: below. NoSuchElementException: likewise")
    static void gainOthers() {
        LastWord x = Tape.of(GAPS);
        span("gain, SPRING", 0, 15, THROWS, s -> x.gain(s, 0, 0, 0, 0, 1, 0));
        span("gain, sort", 0, 1, THROWS, k -> x.gain(0, k, 0, 0, 0, 1, 0));
        ways("gain, HOW IT STANDS", THROWS, h -> x.gain(0, 0, h, h, 0, 1, 0), WAYS);
        ways("gain, then", THROWS, h -> x.gain(0, 0, 0, h, 0, 1, 0), 0, 1, 3, 6);
        span("gain, the other's sort", 0, 1, THROWS, k -> x.gain(0, 0, 0, 0, k, 1, 0));
        span("gain, AGE, life 3", 1, 2, THROWS, age -> x.gain(0, 0, 0, 0, 0, age, 0));
        span("gain, what", 0, 1, THROWS, w -> x.gain(0, 0, 0, 0, 0, 1, w));
        x.ask(0, 1);
        none("gain, she may not do it", () -> x.gain(0, 0, 0, 1, 0, 1, 0));
        x.pledge(0, 1, 0);
        none("gain, a PLEDGE in that SPRING", () -> x.gain(0, 0, 0, 0, 0, 1, 0));
        LastWord one = Tape.of(GAPS.replace("life 3", "life 1"));
        none("gain, life 1", () -> one.gain(0, 0, 0, 0, 0, 1, 0));
        none("gain, life 1, AGE 0", () -> one.gain(0, 0, 0, 0, 0, 0, 0));
        LastWord none = Tape.of(THING);
        none("gain, no sort", () -> none.gain(0, 0, 0, 0, 0, 1, 0));
    }

    @Edge(of = "Promise 17", says = "LETS, what 0: above, 1: below. NoSuchElementException: likewise")
    static void letsOthers() {
        LastWord x = Tape.of(GAPS);
        span("lets, SPRING", 0, 15, THROWS, s -> x.lets(s, 0, 0, 0, 0, 1, 0));
        span("lets, sort", 0, 1, THROWS, k -> x.lets(0, k, 0, 0, 0, 1, 0));
        ways("lets, HOW IT STANDS", THROWS, h -> x.lets(0, 0, h, h, 0, 1, 0), WAYS);
        ways("lets, then", THROWS, h -> x.lets(0, 0, 0, h, 0, 1, 0), 0, 1, 3, 6);
        span("lets, the other's sort", 0, 1, THROWS, k -> x.lets(0, 0, 0, 0, k, 1, 0));
        span("lets, AGE, life 3", 1, 2, THROWS, age -> x.lets(0, 0, 0, 0, 0, age, 0));
        span("lets, what", 0, 1, THROWS, w -> x.lets(0, 0, 0, 0, 0, 1, w));
        x.ask(0, 1);
        none("lets, she may not do it", () -> x.lets(0, 0, 0, 1, 0, 1, 0));
        x.pledge(0, 1, 0);
        none("lets, a PLEDGE in that SPRING", () -> x.lets(0, 0, 0, 0, 0, 1, 0));
        LastWord one = Tape.of(GAPS.replace("life 3", "life 1"));
        none("lets, life 1", () -> one.lets(0, 0, 0, 0, 0, 1, 0));
        none("lets, life 1, AGE 0", () -> one.lets(0, 0, 0, 0, 0, 0, 0));
        LastWord none = Tape.of(THING);
        none("lets, no sort", () -> none.lets(0, 0, 0, 0, 0, 1, 0));
    }

    @Edge(of = "Promise 18", says = "PRESENT, what 0: HOW IT STANDS then, 1: the sort, 2: the AGE, 3, 4: LETS above and below."
            + " NoSuchElementException: others")
    static void presentOthers() {
        LastWord x = Tape.of(GAPS);
        span("present, SPRING", 0, 15, THROWS, s -> x.present(s, 0, 0, 0));
        span("present, sort", 0, 1, THROWS, k -> x.present(0, k, 0, 0));
        ways("present, HOW IT STANDS", THROWS, h -> x.present(0, 0, h, 0), WAYS);
        span("present, what", 0, 4, THROWS, w -> x.present(0, 0, 0, w));
        LastWord none = Tape.of(THING);
        none("present, no sort", () -> none.present(0, 0, 0, 0));
        LastWord things = Tape.of(SORT);
        long[] same = {0, 0, 1, 0, 1};
        for (int what = 0; what < 5; what++) {
            due("present, no THING, what " + what, things.present(0, 0, 0, what), same[what]);
        }
    }

    @Edge(of = "Promise 18", says = "a PLEDGE in that SPRING, life 1")
    static void presentUnderAPledge() {
        LastWord x = Tape.of(GAPS);
        x.pledge(1, 0, 0);
        for (int what = 0; what < 5; what++) {
            refused("a PLEDGE in that SPRING", what, THROWS, w -> x.present(1, 0, 0, w));
            answered("the SPRING ahead of it", what, THROWS, w -> x.present(0, 0, 0, w));
        }
        LastWord one = Tape.of(GAPS.replace("life 3", "life 1"));
        LastWord two = Tape.of(GAPS.replace("life 3", "life 2"));
        for (int what = 0; what < 5; what++) {
            refused("life 1", what, THROWS, w -> one.present(0, 0, 0, w));
            answered("life 2", what, THROWS, w -> two.present(0, 0, 0, w));
        }
    }

    @Edge(of = "==== 3.", says = "LETS: GAIN less PRICE")
    static void eachAsTheFirstCall() {
        part("PRICE", w -> Tape.of(TUG).price(2, 0, 0, 0, w), 2, 1);
        part("GAIN", w -> Tape.of(TUG).gain(2, 0, 0, 0, 1, 1, w), 5, 1);
        part("LETS", w -> Tape.of(TUG).lets(2, 0, 0, 0, 1, 1, w), 3, 1);
        part("LETS of PRESENT", w -> Tape.of(TUG).present(2, 0, 0, w + 3), 3, 1);
        part("LETS of another, below 0", w -> Tape.of(TUG).lets(2, 0, 0, 0, 0, 1, w), -7, 1);
    }

    // ---- promises 19 to 22

    @Edge(of = "Promise 19", says = "HOPES, what 0: above, 1: below. NoSuchElementException: others, no such SPRING")
    static void hopesOthers() {
        LastWord x = Tape.of(TUG);
        span("hopes, SPRING of 4", 0, 3, THROWS, s -> x.hopes(s, 0, 0));
        span("hopes, sort", 0, 1, THROWS, k -> x.hopes(0, k, 0));
        span("hopes, what", 0, 1, THROWS, w -> x.hopes(0, 0, w));
        LastWord many = Tape.of(GAPS);
        span("hopes, SPRING of 16", 0, 6, THROWS, s -> many.hopes(s, 0, 0));
        LastWord one = Tape.of(SORT + "springs 1 ;");
        span("hopes, SPRING of 1", 0, 0, THROWS, s -> one.hopes(s, 0, 0));
        LastWord none = Tape.of(THING);
        none("hopes, no sort", () -> none.hopes(0, 0, 0));
    }

    @Edge(of = "Promise 20", says = "VOW, what 0: THING * 3 + state, 1, 2: above and below of how much more. NoSuchElementException:"
            + " likewise, no THING")
    static void vowOthers() {
        LastWord x = Tape.of(TUG);
        span("vow, SPRING of 4", 0, 3, THROWS, s -> x.vow(s, 0, 0));
        span("vow, sort", 0, 1, THROWS, k -> x.vow(0, k, 0));
        span("vow, what", 0, 2, THROWS, w -> x.vow(0, 0, w));
        LastWord many = Tape.of(GAPS);
        span("vow, SPRING of 16", 0, 6, THROWS, s -> many.vow(s, 0, 0));
        LastWord none = Tape.of(THING);
        none("vow, no sort", () -> none.vow(0, 0, 0));
        LastWord things = Tape.of(SORT);
        for (int what = 0; what < 3; what++) {
            refused("vow, no THING", what, THROWS, w -> things.vow(0, 0, w));
        }
    }

    @Edge(of = "Promise 21", says = "BIND, what 0: above, 1: below. NoSuchElementException: others, as of value(), no such THING")
    static void bindOthers() {
        LastWord x = Tape.of(GAPS);
        span("bind, THING", 0, 1, THROWS, t -> x.bind(t, 0, 0, 0, 0));
        span("bind, SPRING", 0, 15, THROWS, s -> x.bind(0, s, 0, 0, 0));
        span("bind, sort", 0, 1, THROWS, k -> x.bind(0, 0, k, 0, 0));
        ways("bind, HOW IT STANDS", THROWS, h -> x.bind(0, 0, 0, h, 0), WAYS);
        span("bind, what", 0, 1, THROWS, w -> x.bind(0, 0, 0, 0, w));
        LastWord none = Tape.of(THING);
        none("bind, no sort", () -> none.bind(0, 0, 0, 0, 0));
        LastWord things = Tape.of(SORT);
        none("bind, no THING", () -> things.bind(0, 0, 0, 0, 0));
        x.pledge(0, 0, 1);
        answered("bind, a PLEDGE is no hindrance", 0, THROWS, s -> x.bind(0, s, 0, 0, 0));
    }

    @Edge(of = "Promise 22", says = "ORDER of two THINGS, what 0: above, 1: below. NoSuchElementException: others, the same, as of value(),"
            + " no SPRING behind it")
    static void orderOthers() {
        LastWord x = Tape.of(GAPS);
        for (int a = -2; a < 4; a++) {
            for (int b = -2; b < 4; b++) {
                boolean two = a >= 0 && a < 2 && b >= 0 && b < 2 && a != b;
                int first = a;
                int second = b;
                due("order of " + a + " and " + b, answer(() -> x.order(first, second, 0, 0, 0, 0)) != THROWS, two);
            }
        }
        span("order, SPRING", 0, 14, THROWS, s -> x.order(0, 1, s, 0, 0, 0));
        span("order, sort", 0, 1, THROWS, k -> x.order(0, 1, 0, k, 0, 0));
        ways("order, HOW IT STANDS", THROWS, h -> x.order(0, 1, 0, 0, h, 0), WAYS);
        span("order, what", 0, 1, THROWS, w -> x.order(0, 1, 0, 0, 0, w));
        LastWord one = Tape.of(GAPS.replace("springs 16", "springs 1"));
        none("order, no SPRING behind it", () -> one.order(0, 1, 0, 0, 0, 0));
        LastWord thing = Tape.of(THING + SORT);
        none("order, one THING", () -> thing.order(0, 1, 0, 0, 0, 0));
        none("order, one THING", () -> thing.order(0, 0, 0, 0, 0, 0));
        LastWord unsorted = Tape.of(THING + THING.replace(" a ", " b "));
        none("order, no sort", () -> unsorted.order(0, 1, 0, 0, 0, 0));
    }

    @Edge(of = "==== 3.", says = "VOW: the PLEDGE of that SPRING (instead of what is pledged)")
    static void whatOnlyLooksChangesNothing() {
        for (int i = 0; i < 8; i++) {
            whatOnlyLooks(i / 4 * 99, i / 2 % 2, i % 2);
        }
    }

    private static void whatOnlyLooks(int b, int first, int third) {
        LastWord x = Tape.of(GAPS + " spring 0 is kim ; spring 1 is nobody ; spring 2 is lee ;");
        x.ask(0, first);
        x.ask(2, third);
        x.pledge(1, 1, 2);
        x.stone(1, true);
        long due = looksOf(x);
        answer(() -> x.bestRow(3, b));
        due("behind bestRow", looksOf(x), due);
        answer(() -> x.vow(0, 0, b));
        answer(() -> x.vow(1, 1, b));
        due("behind vow", looksOf(x), due);
        answer(() -> x.bind(0, 0, 0, 0, b));
        answer(() -> x.bind(1, 0, 0, 0, b));
        due("behind bind", looksOf(x), due);
        answer(() -> x.order(0, 1, 0, 0, 0, b));
        answer(() -> x.order(1, 0, 1, 0, 0, b));
        due("behind order", looksOf(x), due);
        x.brought(3 + b);
        x.rowFor(3 + b, 1);
        x.rowFor(2, b);
        due("behind brought, rowFor", looksOf(x), due);
        x.bestRule(12 + b);
        due("behind bestRule", looksOf(x), due);
    }

    // ---- promises 23 to 26

    @Edge(of = "Promise 23", says = "2: in which SPRING who was asked had come (NONE: nobody was asked; by 4 the last of them)")
    static void whoWasAsked() {
        LastWord x = Tape.of(THING + "sort kim worth a ; chance kim 6 ; spring 1 is nobody ; life 3 ; springs 4 ;");
        int[][] asked = {{0, -1, 2, 3}, {0, -1, 2, 3}, {-1, -1, 0, -1}, null, {0, 0, 2, 3}, {-1, -1, -1, -1}};
        int[] came = {0, -1, 0, 0};
        for (int rule = 0; rule < 6; rule++) {
            for (int s = 0; s < 4; s++) {
                due("who came, rule " + rule + ", spring " + s, x.century(0, rule, s, 1), came[s]);
                if (asked[rule] != null) {
                    due("who was asked, rule " + rule + ", spring " + s, x.century(0, rule, s, 2), asked[rule][s]);
                }
            }
        }
    }

    @Edge(of = "Promise 23", says = "1: the sort that came (NONE: nobody)")
    static void nobodyCameInACentury() {
        LastWord x = Tape.of(SORT + "springs 2 ; spring 1 is nobody ;");
        due("kim", x.century(0, 0, 0, 1), 0);
        due("nobody", x.century(0, 0, 1, 1), NONE);
    }

    @Edge(of = "Promise 23", says = "3: the THING that was changed (NONE: none)")
    static void whatWasChanged() {
        LastWord x = Tape.of(THING + THING.replace(" a ", " b ") + "sort kim worth b ; chance kim 6 ; life 1 ; springs 3 ;");
        x.pledge(1, 1, 1);
        x.pledge(2, 0, 1);
        int[] changed = {1, -1, 0};
        for (int s = 0; s < 3; s++) {
            due("spring " + s, x.century(0, 0, s, 3), changed[s]);
        }
    }

    @Edge(of = "Promise 23", says = "NoSuchElementException: others, no sort")
    static void centuryOthers() {
        LastWord x = Tape.of(TUG);
        span("century, seed", 0, 9999, THROWS, seed -> x.century(seed, 0, 0, 0));
        span("century, rule", 0, 5, THROWS, rule -> x.century(0, rule, 0, 0));
        span("century, SPRING", 0, 3, THROWS, s -> x.century(0, 0, s, 0));
        span("century, what", 0, 3, THROWS, w -> x.century(0, 0, 0, w));
        LastWord many = Tape.of(GAPS);
        span("century, SPRING of 16", 0, 15, THROWS, s -> many.century(9999, 3, s, 0));
        LastWord none = Tape.of(THING + "spring 0 is nobody ;");
        for (int rule = 0; rule < 6; rule++) {
            refused("century, no sort", rule, THROWS, r -> none.century(0, r, 0, 0));
        }
    }

    @Edge(of = "Promise 24", says = "FARES of who came in a SPRING. NoSuchElementException: likewise, nobody came")
    static void faresOthers() {
        LastWord x = Tape.of(TUG);
        span("fares, seed", 0, 9999, THROWS, seed -> x.fares(seed, 0, 0));
        span("fares, rule", 0, 5, THROWS, rule -> x.fares(0, rule, 0));
        span("fares, SPRING", 0, 3, THROWS, s -> x.fares(0, 0, s));
        LastWord y = Tape.of(TUG + " spring 0 is nobody ; spring 3 is nobody ;");
        for (int rule = 0; rule < 6; rule++) {
            refused("fares, nobody came in the first", rule, THROWS, r -> y.fares(0, r, 0));
            answered("fares, somebody came", rule, THROWS, r -> y.fares(0, r, 1));
            refused("fares, nobody came in the last", rule, THROWS, r -> y.fares(0, r, 3));
        }
        LastWord none = Tape.of(THING);
        none("fares, no sort", () -> none.fares(0, 0, 0));
    }

    @Edge(of = "Promise 25", says = "3: SPRINGS in which somebody was asked and THE SAME was said, 4: in which somebody was asked, 5: COSTS"
            + " together. NoSuchElementException: likewise")
    static void toldOthers() {
        LastWord x = Tape.of(TUG);
        span("told, seed", 0, 9999, THROWS, seed -> x.told(seed, 0, 0));
        span("told, rule", 0, 5, THROWS, rule -> x.told(0, rule, 0));
        span("told, what", 0, 5, THROWS, w -> x.told(0, 0, w));
        LastWord none = Tape.of(THING);
        for (int what = 0; what < 6; what++) {
            refused("told, no sort", what, THROWS, w -> none.told(0, 0, w));
        }
        LastWord nobody = Tape.of(SORT + "springs 2 ; spring 0 is nobody ; spring 1 is nobody ;");
        int[] told = {2, 0, 0, 0, 0, 0};
        for (int what = 0; what < 6; what++) {
            due("told, nobody came, what " + what, nobody.told(0, 4, what), told[what]);
        }
        LastWord y = Tape.of(THING.replace("cost 0", "cost 999") + "sort kim worth 0 ; chance kim 6 ; springs 16 ; life 1 ;");
        for (int s = 0; s < 16; s++) {
            y.pledge(s, 0, s == 15 ? 1 : 1 - s % 2);
        }
        due("THE SAME was said in the last alone", y.told(0, 0, 3), 1);
        due("COSTS of the others", y.told(0, 0, 5), 999 * 15);
        due("all were asked", y.told(0, 0, 4), 16);
    }

    @Edge(of = "Promise 26", says = "The BEST RULE by so many SEEDS; NONE: others, no sort")
    static void bestRuleOthers() {
        LastWord x = Tape.of(TUG);
        span("bestRule", 1, 12, NONE, x::bestRule);
        LastWord none = Tape.of(THING + "spring 0 is nobody ;");
        due("bestRule, no sort", none.bestRule(1), NONE);
        due("bestRule, no sort", none.bestRule(12), NONE);
    }

    // ---- promises 27 to 29

    @Edge(of = "Promise 27", says = "BROUGHT ABOUT: how many; NONE: other n, who COMES in them is not told, fewer SPRINGS, no sort")
    static void broughtOthers() {
        String told = "spring 0 is kim ; spring 1 is nobody ; spring 2 is lee ; ";
        LastWord x = Tape.of(GAPS + told);
        span("brought", 1, 3, NONE, x::brought);
        for (int springs = 1; springs <= 3; springs++) {
            LastWord few = Tape.of(GAPS.replace("springs 16", "springs " + springs) + told);
            span("brought, springs " + springs, 1, springs, NONE, few::brought);
            LastWord untold = Tape.of(GAPS + told.replace("spring " + (springs - 1) + " is", "spring " + (springs + 5) + " is"));
            for (int n = 1; n <= 3; n++) {
                due("brought(" + n + "), " + (springs - 1) + " is not told", untold.brought(n) == NONE, n >= springs);
            }
        }
        LastWord none = Tape.of(THING + "spring 0 is nobody ; spring 1 is nobody ; spring 2 is nobody ;");
        for (int n = 1; n <= 3; n++) {
            refused("brought, no sort", n, NONE, none::brought);
        }
        LastWord things = Tape.of(SORT + "spring 0 is kim ;");
        due("brought, no THING", things.brought(1), 1);
    }

    @Edge(of = "Promise 28", says = "The first row of QUESTIONS by which it STANDS so; NONE: likewise, none")
    static void rowForOthers() {
        String told = "spring 0 is kim ; spring 1 is nobody ; spring 2 is lee ; ";
        LastWord x = Tape.of(GAPS + told);
        // kim would have b at 2, and a at 1 where she is asked that alone
        ways("rowFor, kim alone", NONE, h -> x.rowFor(1, h), 1, 6);
        span("rowFor, n", 1, 3, NONE, n -> x.rowFor(n, 6));
        LastWord few = Tape.of(GAPS.replace("springs 16", "springs 1") + told);
        due("rowFor, fewer SPRINGS", few.rowFor(2, 6), NONE);
        due("rowFor, not told", Tape.of(GAPS).rowFor(1, 6), NONE);
        due("rowFor, no sort", Tape.of(THING + "spring 0 is nobody ;").rowFor(1, 0), NONE);
        due("rowFor, no THING", Tape.of(SORT + "spring 0 is kim ;").rowFor(1, 0), 0);
        due("rowFor, nobody", Tape.of(THING + SORT + "spring 0 is nobody ;").rowFor(1, 0), 0);
        due("rowFor, nobody, none", Tape.of(THING + SORT + "spring 0 is nobody ;").rowFor(1, 1), NONE);
    }

    @Edge(of = "Promise 29", says = "NONE: likewise, no such sort")
    static void bestRowOthers() {
        String told = "spring 0 is kim ; spring 1 is nobody ; spring 2 is lee ; ";
        LastWord x = Tape.of(GAPS + told);
        span("bestRow, n", 1, 3, NONE, n -> x.bestRow(n, 0));
        span("bestRow, sort", 0, 1, NONE, k -> x.bestRow(3, k));
        LastWord few = Tape.of(GAPS.replace("springs 16", "springs 1") + told);
        due("bestRow, fewer SPRINGS", few.bestRow(2, 0), NONE);
        due("bestRow, not told", Tape.of(GAPS).bestRow(1, 0), NONE);
        due("bestRow, no sort", Tape.of(THING + "spring 0 is nobody ;").bestRow(1, 0), NONE);
        due("bestRow, no THING", Tape.of(SORT + "spring 0 is kim ;").bestRow(1, 0), 0);
    }
}
