/** The edges of ==== 4. to ==== 6.: centuries and rules, what questions bring about, marks, the row that is judged. */
final class EdgesOfCenturies extends Edges {
    private static final int NOBODY = -1;
    private static final int[] SEEDS = {0, 1, 2, 7, 4242, 9998, 9999};
    private static final String A = "thing a states 2 start 0 cost 0 ; ";
    private static final String B = "thing b states 2 start 0 cost 0 ; ";
    private static final String C = "thing c states 2 start 0 cost 0 ; ";

    /** One who came in the first of three springs, and nobody then. */
    private static final String ALONE = "sort kim worth 5 * a ; chance kim 6 ; spring 0 is kim ; spring 1 is nobody ;"
            + " spring 2 is nobody ; life 2 ; springs 3 ;";

    /** Each of three brings up the greatest that is not up yet of what she is asked. */
    private static final String THREE = A + B + C + "sort kim worth a + 2 * b + 4 * c ; chance kim 6 ; spring 0 is kim ;"
            + " spring 1 is kim ; spring 2 is kim ; life 1 ; springs 3 ;";

    private EdgesOfCenturies() {
    }

    /** The draws of a seed, each as the document tells, cut but not yet modulo anything. */
    private static int[] draws(int seed, int many) {
        int[] all = new int[many];
        long g = seed;
        for (int i = 0; i < many; i++) {
            g = Math.floorMod(g * 1103515245L + 12345L, 2147483648L);
            all[i] = (int) (g / 65536);
        }
        return all;
    }

    private static long judge(LastWord x, int what, int... rows) {
        x.clear();
        for (int i = 0; i < rows.length; i += 3) {
            x.row(rows[i], rows[i + 1], rows[i + 2]);
        }
        return x.judged(what);
    }

    /** The last of the rows can't be, all ahead of it can. */
    private static void lastCantBe(String which, LastWord x, int why, int... rows) {
        due(which + ", which", judge(x, 0, rows), rows.length / 3 - 1);
        due(which + ", why", judge(x, 1, rows), why);
    }

    private static void canBe(String which, LastWord x, int... rows) {
        due(which + ", which", judge(x, 0, rows), NONE);
        due(which + ", why", judge(x, 1, rows), 0);
    }

    // ---- ==== 4.

    @Edge(of = "==== 4.", says = "A CENTURY of a SEED (0 to 9999) by a RULE, from the start on")
    static void seedsAndRules() {
        LastWord x = Tape.of(TUG.replace("start 0", "start 1"));
        span("century, seed", 0, 9999, THROWS, seed -> x.century(seed, 0, 0, 0));
        span("century, rule", 0, 5, THROWS, rule -> x.century(0, rule, 0, 0));
        due("from the start", x.century(0, 5, 0, 0), 1);
    }

    @Edge(of = "==== 4.", says = "in each SPRING for which nothing is told g becomes (g * 1103515245 + 12345) modulo 2147483648"
            + " (SEED at first), and g / 65536, cut, modulo 6 tells the sort (the first sort has the least numbers, so many"
            + " as its chance)")
    static void drawsOfWhoComes() {
        String text = "sort nil worth 0 ; sort kim worth 0 ; sort lee worth 0 ; sort ann worth 0 ; chance ann 3 ;"
                + " chance kim 1 ; chance lee 2 ; springs 16 ; ";
        int[] sortOf = {1, 2, 2, 3, 3, 3};
        for (int seed : SEEDS) {
            LastWord x = Tape.of(text);
            LastWord told = Tape.of(text + "spring 0 is nil ; spring 5 is nobody ; spring 15 is kim ;");
            int[] draws = draws(seed, 16);
            int next = 0;
            for (int s = 0; s < 16; s++) {
                due("seed " + seed + ", spring " + s, x.century(seed, 5, s, 1), sortOf[draws[s] % 6]);
                int comes = s == 0 ? 0 : s == 5 ? NOBODY : s == 15 ? 1 : sortOf[draws[next++] % 6];
                due("seed " + seed + ", some are told, spring " + s, told.century(seed, 5, s, 1), comes);
            }
        }
    }

    @Edge(of = "==== 4.", says = "2 ELDEST: who came life less 1 SPRINGS ago (nobody if nobody did) is asked")
    static void eldest() {
        String text = A + "sort kim worth a ; chance kim 6 ; spring 1 is nobody ; springs 5 ; ";
        int[][] asked = {{0, -1, 2, 3, 4}, {-1, 0, -1, 2, 3}, {-1, -1, 0, -1, 2}, {-1, -1, -1, 0, -1},
            {-1, -1, -1, -1, 0}, {-1, -1, -1, -1, -1}};
        for (int life = 1; life <= 6; life++) {
            LastWord x = Tape.of(text + "life " + life + " ;");
            for (int s = 0; s < 5; s++) {
                due("life " + life + ", spring " + s, x.century(0, 2, s, 2), asked[life - 1][s]);
            }
        }
        due("nobody is ever asked", Tape.of(text + "life 6 ;").told(0, 2, 4), 0);
    }

    @Edge(of = "==== 4.", says = "PLAIN for the SPRINGS that are left to her")
    static void eldestHasOneSpringLeft() {
        LastWord x = Tape.of(A.replace("cost 0", "cost 6") + "sort kim worth 5 * a ; chance kim 6 ; life 2 ; springs 4 ;");
        due("who comes has two: 10 for 6", x.century(0, 1, 0, 0), 1);
        due("who comes in the last has one: 5 for 6", Tape.of(A.replace("cost 0", "cost 6")
                + "sort kim worth 5 * a ; chance kim 6 ; spring 0 is nobody ; life 2 ; springs 2 ;").century(0, 1, 1, 0), 0);
        due("the eldest has one: 5 for 6", x.century(0, 2, 3, 0), 0);
        due("the eldest was asked", x.told(0, 2, 4), 3);
        due("and said THE SAME", x.told(0, 2, 3), 3);
    }

    @Edge(of = "==== 4.", says = "3 LOTS: g goes on once more, g / 65536, cut, modulo life is an AGE: who came so many SPRINGS ago"
            + " is asked likewise (nobody if nobody did)")
    static void lots() {
        String text = "sort kim worth 0 ; chance kim 3 ; sort lee worth 0 ; chance lee 3 ; spring 0 is nobody ;"
                + " spring 4 is lee ; spring 7 is nobody ; springs 16 ; ";
        for (int seed : SEEDS) {
            for (int life = 1; life <= 6; life++) {
                LastWord x = Tape.of(text + "life " + life + " ;");
                int[] draws = draws(seed, 32);
                int next = 0;
                int[] came = new int[16];
                for (int s = 0; s < 16; s++) {
                    boolean nobody = s == 0 || s == 7;
                    came[s] = nobody ? NOBODY : s == 4 ? 1 : draws[next++] % 6 < 3 ? 0 : 1;
                    int since = s - draws[next++] % life;
                    int asked = since >= 0 && came[since] != NOBODY ? since : NOBODY;
                    due("seed " + seed + ", life " + life + ", who came in " + s, x.century(seed, 3, s, 1), came[s]);
                    due("seed " + seed + ", life " + life + ", who was asked in " + s, x.century(seed, 3, s, 2), asked);
                }
            }
        }
    }

    @Edge(of = "==== 4.", says = "4 ALL: those who came in the life SPRINGS up to this one do what is PLAIN for the sum of them (each"
            + " for the SPRINGS left to her; THE COSTS once)")
    static void all() {
        String text = "sort kim worth 5 * a ; chance kim 6 ; life 2 ; springs 3 ; ";
        LastWord x = Tape.of(A.replace("cost 0", "cost 12") + text);
        int[] stood = {0, 1, 1};
        for (int s = 0; s < 3; s++) {
            due("10, then 15 for 12, spring " + s, x.century(0, 4, s, 0), stood[s]);
        }
        due("COSTS together", x.told(0, 4, 5), 12);
        due("15 for 15: THE SAME", Tape.of(A.replace("cost 0", "cost 15") + text).told(0, 4, 5), 0);
        LastWord alone = Tape.of(A + ALONE);
        int[] asked = {0, 0, -1};
        for (int s = 0; s < 3; s++) {
            due("who lives, spring " + s, alone.century(0, 4, s, 2), asked[s]);
        }
        LastWord six = Tape.of(A + ALONE.replace("life 2", "life 6").replace("springs 3", "springs 16")
                + " spring 3 is nobody ; spring 4 is nobody ; spring 5 is nobody ; spring 6 is nobody ;");
        due("at an AGE of 5", six.century(0, 4, 5, 2), 0);
        due("not at 6", six.century(0, 4, 6, 2), NOBODY);
    }

    @Edge(of = "==== 4.", says = "5: nobody is asked")
    static void nobodyIsAsked() {
        LastWord x = Tape.of(TUG.replace("cost 3", "cost 0"));
        x.pledge(0, 0, 1);
        int[] draws = draws(3, 4);
        int ofLees = 0;
        for (int s = 0; s < 4; s++) {
            ofLees += draws[s] % 6 < 3 ? 0 : 5 * Math.min(2, 4 - s);
        }
        int[] told = {4, 0, ofLees, 0, 0, 0};
        for (int what = 0; what < 6; what++) {
            due("told " + what, x.told(3, 5, what), told[what]);
        }
        for (int s = 0; s < 4; s++) {
            due("it stands as at the start", x.century(3, 5, s, 0), 0);
            due("who was asked", x.century(3, 5, s, 2), NONE);
            due("what was changed", x.century(3, 5, s, 3), NONE);
        }
    }

    @Edge(of = "==== 4.", says = "PLEDGES and QUESTIONS hold by each RULE (a PLEDGE if somebody is asked, by 4 if somebody lives)")
    static void pledgesAndQuestionsByEachRule() {
        int[] one = {0, 0, 1, draws(1, 2)[1] % 2, 1, 0};
        int[] two = {0, 0, 1, draws(2, 2)[1] % 2, 1, 0};
        due("the lots differ", one[3] != two[3], true);
        for (int rule = 0; rule < 6; rule++) {
            LastWord x = Tape.of(A + ALONE.replace("5 * a", "0"));
            x.pledge(1, 0, 1);
            due("she is asked at an AGE of 1, rule " + rule, x.century(1, rule, 1, 0), one[rule]);
            due("she is asked at an AGE of 1, rule " + rule, x.century(2, rule, 1, 0), two[rule]);
            LastWord y = Tape.of(A + ALONE.replace("5 * a", "0"));
            y.pledge(2, 0, 1);
            due("nobody is asked, nobody lives, rule " + rule, y.century(1, rule, 2, 0), 0);
            LastWord z = Tape.of(A + B + "sort kim worth 2 * a + b ; chance kim 6 ; life 1 ; springs 2 ;");
            z.ask(0, 1);
            due("a QUESTION, rule " + rule, z.century(0, rule, 0, 0), rule == 5 ? 0 : 3);
            due("any, rule " + rule, z.century(0, rule, 1, 0), rule == 5 ? 0 : 4);
            z.pledge(0, 0, 1);
            due("a PLEDGE against a QUESTION, rule " + rule, z.century(0, rule, 0, 0), 0);
        }
    }

    @Edge(of = "==== 4.", says = "FARES of who came in a SPRING: the sum of WORTHS of her SPRINGS, less what she COST as the one who"
            + " was asked (by 4 nobody's)")
    static void faresByEachRule() {
        LastWord x = Tape.of(A.replace("cost 0", "cost 3") + ALONE);
        // by lots she is asked at once: the first draw of seed 0 is 0
        int[] fares = {7, 7, 2, 7, 10, 0};
        for (int rule = 0; rule < 6; rule++) {
            due("rule " + rule, x.fares(0, rule, 0), fares[rule]);
        }
        for (int life = 1; life <= 6; life++) {
            LastWord y = Tape.of("sort kim worth 1 ; chance kim 6 ; springs 5 ; life " + life + " ;");
            for (int s = 0; s < 5; s++) {
                due("life " + life + ", spring " + s, y.fares(0, 0, s), Math.min(life, 5 - s));
            }
        }
    }

    @Edge(of = "==== 4.", says = "LASTS: how many SPRINGS it has stood at the end as it does")
    static void lasts() {
        String text = A + "sort kim worth 0 ; chance kim 6 ; sort lee worth a ; life 1 ; springs 16 ; ";
        due("from the start", Tape.of(text).told(0, 0, 0), 16);
        due("changed in the first", Tape.of(text + "spring 0 is lee ;").told(0, 0, 0), 16);
        due("changed in the second", Tape.of(text + "spring 1 is lee ;").told(0, 0, 0), 15);
        due("changed in the last", Tape.of(text + "spring 15 is lee ;").told(0, 0, 0), 1);
        due("one SPRING", Tape.of(text.replace("springs 16", "springs 1")).told(0, 0, 0), 1);
        LastWord x = Tape.of(text + "spring 3 is lee ;");
        x.pledge(5, 0, 0);
        due("as at the start, but not since", x.told(0, 0, 0), 11);
    }

    @Edge(of = "==== 4.", says = "BACK: how many times one brought a THING to a state that it had stood at in a SPRING (or at the"
            + " start) ahead")
    static void back() {
        LastWord x = Tape.of(A.replace("states 2", "states 3").replace("start 0", "start 1") + "sort kim worth 0 ;"
                + " chance kim 6 ; life 1 ; springs 6 ;");
        due("nothing", x.told(0, 0, 1), 0);
        x.pledge(0, 0, 0);
        due("a new one", x.told(0, 0, 1), 0);
        x.pledge(1, 0, 2);
        due("another new one", x.told(0, 0, 1), 0);
        x.pledge(2, 0, 1);
        due("the start", x.told(0, 0, 1), 1);
        x.pledge(3, 0, 1);
        due("THE SAME is no bringing", x.told(0, 0, 1), 1);
        x.pledge(5, 0, 0);
        due("that of the first SPRING", x.told(0, 0, 1), 2);
        LastWord y = Tape.of(A + B + "sort kim worth 0 ; chance kim 6 ; life 1 ; springs 2 ;");
        y.pledge(0, 0, 1);
        y.pledge(1, 1, 1);
        due("another THING stood so", y.told(0, 0, 1), 0);
    }

    @Edge(of = "==== 4.", says = "ALL: FARES of all who came")
    static void faresOfAll() {
        LastWord x = Tape.of("sort kim worth 3 ; chance kim 6 ; springs 16 ; life 1 ; spring 0 is nobody ; spring 15 is nobody ;");
        due("14 who came", x.told(0, 0, 2), 42);
        LastWord y = Tape.of("sort kim worth 0 - 9999 ; chance kim 6 ; springs 16 ; life 6 ;");
        due("81 years of the worst", y.told(9999, 0, 2), -9999 * 81);
        StringBuilder nobody = new StringBuilder("sort kim worth 3 ; chance kim 6 ; springs 3 ;");
        for (int s = 0; s < 3; s++) {
            nobody.append(" spring ").append(s).append(" is nobody ;");
        }
        due("nobody came", Tape.of(nobody.toString()).told(0, 0, 2), 0);
    }

    @Edge(of = "==== 4.", says = "BEST RULE by seeds 0 up to so many (1 to 12): the greatest sum of ALL, of equal ones the first")
    static void bestRuleBySeeds() {
        LastWord x = Tape.of(TUG);
        span("bestRule", 1, 12, NONE, x::bestRule);
        LastWord same = Tape.of("sort kim worth 1 ; chance kim 6 ;");
        due("of equal ones", same.bestRule(12), 0);
        due("of equal ones of nothing", Tape.of("sort kim worth 0 ; chance kim 6 ;").bestRule(1), 0);
        due("of equal ones below 0", Tape.of("sort kim worth 0 - 1 ; chance kim 6 ;").bestRule(12), 0);
        int differ = 0;
        for (int lee = 1; lee < 6; lee++) {
            LastWord y = Tape.of(TUG.replace("chance kim 3", "chance kim " + (6 - lee)).replace("lee 3", "lee " + lee)
                    .replace("5 - 5 * a", "4 - 4 * a").replace("springs 4", "springs 7"));
            long[] sums = new long[6];
            for (int seeds = 1; seeds <= 12; seeds++) {
                int best = 0;
                for (int rule = 0; rule < 6; rule++) {
                    sums[rule] += y.told(seeds - 1, rule, 2);
                    best = sums[rule] > sums[best] ? rule : best;
                }
                differ += best == 4 ? 0 : 1;
                due("chance " + lee + ", by " + seeds + " seeds", y.bestRule(seeds), best);
            }
        }
        due("it is not the same rule each time", differ > 0, true);
    }

    // ---- ==== 5.

    @Edge(of = "==== 5.", says = "BROUGHT ABOUT by who sets the QUESTION of the first n SPRINGS (1 to 3; for each one any, or one of"
            + " the THINGS)")
    static void broughtUpToThree() {
        LastWord x = Tape.of(THREE);
        span("brought", 1, 3, NONE, x::brought);
        due("one of three", x.brought(1), 3);
        due("one or two of three", x.brought(2), 6);
        due("one, two or three of three", x.brought(3), 7);
        due("no THING", Tape.of("sort kim worth 1 ; chance kim 6 ; spring 0 is kim ;").brought(1), 1);
        LastWord four = Tape.of(THREE.replace("springs 3", "springs 4 ; spring 3 is kim"));
        span("brought, four are told", 1, 3, NONE, four::brought);
        span("rowFor, four are told", 1, 3, NONE, n -> four.rowFor(n, 9));
        span("bestRow, four are told", 1, 3, NONE, n -> four.bestRow(n, 0));
    }

    @Edge(of = "==== 5.", says = "if who COMES in them is told (or nobody)")
    static void broughtIfItIsTold() {
        for (int n = 1; n <= 3; n++) {
            LastWord x = Tape.of(THREE.replace("spring " + (n - 1) + " is kim ;", ""));
            LastWord nobody = Tape.of(THREE.replace("spring " + (n - 1) + " is kim ;", "spring " + (n - 1) + " is nobody ;"));
            for (int k = 1; k <= 3; k++) {
                due("not told in " + (n - 1) + ", brought(" + k + ")", x.brought(k) == NONE, k >= n);
                due("nobody in " + (n - 1) + ", brought(" + k + ")", nobody.brought(k), new int[] {1, 3, 6, 7}[k >= n ? k - 1 : k]);
            }
        }
    }

    @Edge(of = "==== 5.", says = "of one, the first row of QUESTIONS for it (the first SPRING the highest digit, to the base of THINGS"
            + " and 1; 0: any, t + 1: thing t)")
    static void firstRowOfQuestions() {
        LastWord x = Tape.of(THREE);
        int[][] rows = {{13, 0}, {12, 2}, {10, 5}, {9, 15}, {1, 21}, {4, 22}, {3, 42}, {0, -1}};
        for (int[] row : rows) {
            due("it stands at " + row[0], x.rowFor(3, row[0]), row[1]);
        }
        due("one SPRING: any", x.rowFor(1, 9), 0);
        due("one SPRING: the second", x.rowFor(1, 3), 2);
        LastWord last = Tape.of(THREE.replace("a + 2 * b + 4 * c", "0 - a - b - c").replace("start 0", "start 1"));
        due("the last row of all: c down alone", last.rowFor(3, 4), 63);
        due("any would bring down a", last.rowFor(1, 12), 0);
    }

    @Edge(of = "==== 5.", says = "by which row the VALUE of one of a sort in SPRING 0 (as if she was asked there) is the greatest, of"
            + " equal ones the first")
    static void bestRowOfEqualOnes() {
        LastWord x = Tape.of(THREE + " sort lee worth 7 ; sort ann worth 0 ; sort pat worth 0 - 7 ;");
        due("any is as good as the third", x.bestRow(3, 0), 0);
        for (int sort = 1; sort < 4; sort++) {
            due("all the same to her, who can't come", x.bestRow(3, sort), 0);
        }
        LastWord y = Tape.of(THREE.replace("spring 0 is kim", "sort lee worth 9 * b ; spring 0 is nobody")
                .replace("life 1", "life 2"));
        due("as if she was asked there, though nobody comes: 18 at once", y.bestRow(3, 1), 0);
        LastWord z = Tape.of(A + B + "sort kim worth a + 2 * b ; chance kim 6 ; sort lee worth 0 - b ; spring 0 is kim ;"
                + " spring 1 is lee ; life 2 ; springs 2 ;");
        due("lee would undo b, unless she is asked a", z.bestRow(2, 0), 1);
    }

    @Edge(of = "==== 5.", says = "MARKS 0 to 3 hold the VILLAGE, QUESTIONS, PLEDGES, which THINGS are of stone, the ROW, as they are")
    static void fourMarks() {
        LastWord x = new LastWord();
        for (int mark = 0; mark < 4; mark++) {
            Tape.village(x, A + "life " + (mark + 1) + " ;");
            for (int i = 0; i <= mark; i++) {
                x.ask(i, 0);
                x.pledge(i, 0, 1);
                x.row(0, 0, 0);
            }
            x.stone(0, mark % 2 == 1);
            due("laid", x.mark(mark, false), true);
            x.clear();
            x.row(7, 7, 7);
        }
        Tape.village(x, "");
        for (int mark = 3; mark >= 0; mark--) {
            due("gone back to", x.mark(mark, true), true);
            due("the VILLAGE", x.count(3), mark + 1);
            due("PLEDGES", x.count(8), mark + 1);
            due("QUESTIONS", x.count(9), mark + 1);
            due("the ROW", x.count(11), mark + 1);
            due("of stone", x.thing(0, 3), mark % 2);
        }
    }

    @Edge(of = "==== 5.", says = "as they are")
    static void whatMarksHold() {
        LastWord x = Tape.of(TUG);
        x.mark(1, false);
        x.ask(3, 0);
        x.pledge(2, 0, 1);
        x.stone(0, true);
        x.row(0, 0, 1);
        x.row(1, -1, 0);
        x.mark(2, false);
        x.ask(3, -1);
        x.pledge(2, 0, 0);
        x.stone(0, false);
        x.clear();
        x.row(1, -1, 0);
        x.row(-1, 0, 0);
        due("the PLEDGE", x.chooses(2, 0, 1, true), 0);
        due("the ROW", x.judged(0), 1);
        due("of wood", x.may(0, 1, 0, 0), 1);
        for (int i = 0; i < 2; i++) {
            x.mark(2, true);
            due("the PLEDGE that was laid", x.chooses(2, 0, 0, true), 1);
            due("the PLEDGE that was laid, known ahead", x.value(1, 0, 0, 0), 7);
            due("the ROW that was laid", x.judged(0), NONE);
            due("the ROW that was laid, who came", x.judged(3), 2);
            due("the ROW that was laid, what she did", x.judged(2), 1);
            due("of stone", x.may(0, 1, 0, 0), 0);
            due("the QUESTION", x.count(9), 1);
            x.mark(1, true);
            due("nothing is pledged", x.chooses(2, 1, 0, true), 0);
            part("nothing is pledged, known ahead", w -> x.value(1, 0, 0, w), 9, 2);
            due("the ROW is empty", x.count(11), 0);
            due("of wood again", x.may(0, 1, 0, 0), 1);
            due("any again", x.count(9), 0);
        }
    }

    // ---- ==== 6.

    @Edge(of = "==== 6.", says = "A ROW, 16 at most, is told SPRING by SPRING: a sort that came, or nobody, and what she did: a THING to"
            + " a state, or THE SAME")
    static void sixteenRows() {
        LastWord x = Tape.of(A + "sort kim worth a ; chance kim 1 ; sort lee worth 0 ; chance lee 5 ; springs 16 ;");
        for (int i = 1; i <= 16; i++) {
            due("row " + i, x.row(0, i == 1 ? 0 : -1, 1), i);
        }
        due("row 17", x.row(1, -1, 0), NONE);
        due("all can be", x.judged(0), NONE);
        due("each did so", x.judged(3), 16);
        part("how LIKELY", w -> x.judged(4 + w), 1, 2821109907456L);
        LastWord nobody = Tape.of("sort kim worth 1 ; chance kim 6 ; spring 0 is nobody ; springs 1 ;");
        canBe("nobody", nobody, -1, -1, 0);
        due("nobody does as AHEAD tells", nobody.judged(3), 0);
    }

    @Edge(of = "==== 6.", says = "1 there is no such SPRING")
    static void noSuchSpring() {
        LastWord x = Tape.of(TUG.replace("springs 4", "springs 1"));
        canBe("the last SPRING", x, 0, -1, 0);
        lastCantBe("one more", x, 1, 0, -1, 0, 0, -1, 0);
        lastCantBe("ahead of why 2", x, 1, 0, -1, 0, 7, -1, 0);
        lastCantBe("ahead of why 3", x, 1, 0, -1, 0, 0, 7, 0);
        due("the first of them", judge(x, 0, 0, -1, 0, 0, -1, 0, 0, -1, 0), 1);
    }

    @Edge(of = "==== 6.", says = "2 who came can't come in it (another one or nobody is told, its chance is 0, or somebody is told and"
            + " nobody came)")
    static void whoCantCome() {
        LastWord x = Tape.of(TUG + " sort ann worth 0 ; spring 1 is kim ; spring 2 is nobody ; spring 3 is ann ;");
        lastCantBe("another one is told", x, 2, 0, -1, 0, 1, -1, 0);
        lastCantBe("somebody is told and nobody came", x, 2, 0, -1, 0, -1, -1, 0);
        lastCantBe("nobody is told", x, 2, 0, -1, 0, 0, -1, 0, 0, -1, 0);
        lastCantBe("its chance is 0", x, 2, 2, -1, 0);
        canBe("its chance is 0, but it is told", x, 0, -1, 0, 0, -1, 0, -1, -1, 0, 2, -1, 0);
        lastCantBe("nothing is told and nobody came", x, 2, -1, -1, 0);
        for (int none : new int[] {3, 4, 77, -2, MOST, LEAST}) {
            lastCantBe("no such sort: " + none, x, 2, none, -1, 0);
        }
        lastCantBe("ahead of why 3", x, 2, 2, 7, 7);
        lastCantBe("ahead of why 3, nobody", x, 2, -1, 0, 0);
        x.ask(0, -1);
        x.stone(0, true);
        lastCantBe("ahead of why 4", x, 2, 0, 0, 1, 1, 0, 0);
    }

    @Edge(of = "==== 6.", says = "3 there is no such THING or state, or nobody came and something was done")
    static void noSuchThingOrState() {
        LastWord x = Tape.of(TUG + " spring 1 is nobody ;");
        for (int none : new int[] {1, 2, 3, -2, MOST, LEAST}) {
            lastCantBe("no such THING: " + none, x, 3, 0, none, 0);
        }
        for (int none : new int[] {2, 3, -1, MOST, LEAST}) {
            lastCantBe("no such state: " + none, x, 3, 0, 0, none);
        }
        lastCantBe("nobody came and something was done", x, 3, 0, -1, 0, -1, 0, 1);
        lastCantBe("nobody came and something was done, as it stands", x, 3, 0, -1, 0, -1, 0, 0);
        for (int state : new int[] {7, -1, MOST, LEAST}) {
            canBe("THE SAME, whatever the state: " + state, x, 0, -1, state, -1, -1, state);
        }
        x.ask(0, 0);
        x.stone(0, true);
        lastCantBe("ahead of why 4", x, 3, 0, 0, 2);
    }

    @Edge(of = "==== 6.", says = "4 it may not be done (PLEDGES do not count)")
    static void mayNotBeDone() {
        LastWord x = Tape.of("thing a states 3 start 1 cost 7 stone ; thing b states 2 start 0 cost 0 ; bar a = 2 and b = 1 ;"
                + " sort kim worth a ; chance kim 6 ;");
        canBe("of stone, at its start", x, 0, 0, 0);
        lastCantBe("of stone, off its start", x, 4, 0, 0, 0, 0, 0, 1);
        canBe("of stone, as it stands", x, 0, 0, 0, 0, 0, 0);
        lastCantBe("barred", x, 4, 0, 0, 2, 0, 1, 1);
        canBe("not barred", x, 0, 0, 0, 0, 1, 1);
        x.ask(0, 1);
        lastCantBe("another QUESTION", x, 4, 0, 0, 0);
        canBe("another QUESTION, as it stands", x, 0, 0, 1);
        canBe("the QUESTION", x, 0, 1, 1);
        x.pledge(0, 1, 0);
        canBe("against a PLEDGE", x, 0, 1, 1);
        due("not as AHEAD tells", x.judged(3), 0);
        canBe("as pledged", x, 0, -1, 0);
        due("as AHEAD tells", x.judged(3), 1);
    }

    @Edge(of = "==== 6.", says = "else none")
    static void allCanBe() {
        LastWord x = Tape.of(TUG.replace("start 0", "start 1"));
        long[] empty = {-1, 0, 1, 0, 1, 1};
        for (int what = 0; what < 6; what++) {
            due("of an empty ROW, judged(" + what + ")", judge(x, what), empty[what]);
        }
        canBe("one", x, 0, -1, 0);
        canBe("all", x, 0, -1, 0, 1, 0, 0, 1, -1, 0, 0, 0, 1);
    }

    @Edge(of = "==== 6.", says = "Of the rows ahead of that one: how it STANDS behind; in how many that came did she do as AHEAD tells"
            + " (PLEDGES, too); how LIKELY it was that just these came")
    static void rowsAheadOfThatOne() {
        LastWord x = Tape.of(TUG + " spring 1 is nobody ;");
        int[] rows = {0, 0, 1, -1, -1, 0, 1, -1, 0, 7, -1, 0, 0, 0, 1};
        long[] all = {3, 2, 1, 1, 1, 4};
        for (int what = 0; what < 6; what++) {
            due("judged(" + what + ")", judge(x, what, rows), all[what]);
        }
        long[] none = {0, 2, 0, 0, 1, 1};
        for (int what = 0; what < 6; what++) {
            due("none is ahead, judged(" + what + ")", judge(x, what, 7, 0, 1, 0, 0, 1), none[what]);
        }
        x.pledge(0, 0, 0);
        due("she was to say THE SAME", judge(x, 3, 0, 0, 1), 0);
        due("she was to say THE SAME", judge(x, 3, 0, 0, 0), 1);
    }

    @Edge(of = "==== 6.", says = "FARES of one of them, for the SPRINGS of these rows alone")
    static void faresOfTheseRowsAlone() {
        LastWord x = Tape.of("sort kim worth 1 ; chance kim 6 ; life 6 ; springs 16 ;");
        for (int rows = 1; rows <= 16; rows++) {
            x.row(0, -1, 0);
            due("the first of " + rows, x.rowFares(0, false), Math.min(6, rows));
            due("the last of " + rows, x.rowFares(rows - 1, false), 1);
        }
        x.clear();
        x.row(0, -1, 0);
        x.row(0, -1, 0);
        x.row(7, -1, 0);
        x.row(0, -1, 0);
        due("not of what can't be, nor of what is behind it", x.rowFares(0, false), 2);
        LastWord y = Tape.of(TUG);
        judge(y, 0, 0, 0, 1, 0, -1, 0);
        due("less what she COST", y.rowFares(0, false), 7);
        due("the other one did not", y.rowFares(1, false), 5);
    }

    @Edge(of = "==== 6.", says = "LOSS of one of them: what FARES would be more if she had said THE SAME, and all behind her had done"
            + " what they did so far as that may be done then, THE SAME else")
    static void loss() {
        // b may be brought up only where a is up
        String bars = A.replace("cost 0", "cost 1") + B + "bar b = 1 and a = 0 ; sort kim worth 3 * a + 2 * b ; chance kim 6 ;"
                + " life 2 ; springs 3 ;";
        LastWord x = Tape.of(bars);
        judge(x, 0, 0, 0, 1, 0, 1, 1, 0, -1, 0);
        due("FARES", x.rowFares(0, false), 7);
        due("b may not be done then", x.rowFares(0, true), -7);
        due("of the second", x.rowFares(1, true), -4);
        due("who said THE SAME lost nothing", x.rowFares(2, true), 0);
        judge(x, 0, 0, 0, 0, 0, 0, 1);
        due("nor who left it as it stood", x.rowFares(0, true), 0);
        judge(x, 0, 0, 0, 1, 0, 0, 1);
        due("the other one would have done it: 3 less 5", x.rowFares(0, true), -2);
        judge(x, 0, 0, 0, 1, 0, 0, 0);
        due("undone at once: 0 less 2", x.rowFares(0, true), -2);
        LastWord y = Tape.of(TUG);
        judge(y, 0, 1, 0, 1);
        due("what she lost by her own word: 5 less -3", y.rowFares(0, true), 8);
        y.pledge(0, 0, 1);
        due("PLEDGES do not count", y.rowFares(0, true), 8);
    }

    @Edge(of = "==== 6.", says = "WHEN: the SPRING (0 to 6) for which a sort's HOPES are the greatest, of equal ones the first, of those"
            + " in which it may come")
    static void whenUpToSix() {
        String text = "sort kim worth spring ; chance kim 6 ; sort lee worth 9 - spring ; life 1 ; springs 16 ; ";
        due("6, not 15", Tape.of(text).when(0, 0), 6);
        part("the HOPES of 6", w -> Tape.of(text).when(0, w + 1), 6, 1);
        due("not where nobody is told", Tape.of(text + "spring 6 is nobody ;").when(0, 0), 5);
        due("not where another is told", Tape.of(text + "spring 6 is lee ;").when(0, 0), 5);
        due("where it is told, though its chance is 0", Tape.of(text + "spring 6 is lee ;").when(1, 0), 6);
        due("told twice", Tape.of(text + "spring 6 is lee ; spring 2 is lee ;").when(1, 0), 2);
        none("told in 7 alone", () -> Tape.of(text + "spring 7 is lee ;").when(1, 0));
        none("no chance", () -> Tape.of(text).when(1, 0));
        due("of equal ones the first", Tape.of(text.replace("worth spring", "worth 1")).when(0, 0), 0);
        due("the least of all below 0", Tape.of(text.replace("worth spring", "worth 0 - 1 - spring")).when(0, 1), -1);
        due("the least chance there is", Tape.of(text.replace("kim 6", "kim 1 ; sort ann worth 0 ; chance ann 5")).when(0, 0), 6);
        due("not behind the last SPRING", Tape.of(text.replace("springs 16", "springs 3")).when(0, 0), 2);
    }
}
