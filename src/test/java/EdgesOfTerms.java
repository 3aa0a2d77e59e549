/** The edges of ==== 2. and ==== 3.: how it stands, who comes and what she may do, what is chosen and what that is worth. */
final class EdgesOfTerms extends Edges {
    /** Who comes does not care, so that nobody changes anything; the others would like a at 1. */
    private static final String CARELESS = "sort kim worth 0 ; sort lee worth a ; sort ann worth a ; chance kim 6 ;"
            + " life 6 ; springs 16 ;";

    private EdgesOfTerms() {
    }

    private static String thing(String name, int states, int start, int cost) {
        return "thing " + name + " states " + states + " start " + start + " cost " + cost + " ; ";
    }

    // ---- ==== 2.

    @Edge(of = "==== 2.", says = "HOW IT STANDS is a number: the state of thing t times 3 to the t, together")
    static void howItStandsIsANumber() {
        LastWord x = Tape.of(thing("a", 2, 1, 0) + thing("b", 3, 2, 0) + thing("c", 2, 1, 0)
                + "sort k worth a + 10 * b + 100 * c ; chance k 6 ;");
        ways("settled", NONE, x::settled, 0, 1, 3, 4, 6, 7, 9, 10, 12, 13, 15, 16);
        due("the start", x.count(5), 16);
        due("ways", x.count(4), 12);
        due("worth at 16", x.worth(0, 16, 0, 0), 121);
        due("worth at 9", x.worth(0, 9, 0, 0), 100);
        LastWord none = Tape.of("sort k worth 1 ; chance k 6 ;");
        ways("settled, no thing", NONE, none::settled, 0);
        LastWord all = Tape.of(thing("a", 3, 2, 0) + thing("b", 3, 2, 0) + thing("c", 3, 2, 0)
                + "sort k worth a + 10 * b + 100 * c ; chance k 6 ;");
        due("the start, 26", all.count(5), 26);
        span("settled, 27 ways", 0, 26, NONE, all::settled);
        due("worth at 26", all.worth(0, 26, 0, 0), 222);
    }

    @Edge(of = "==== 2.", says = "SPRINGS are those from 0, so many as told")
    static void springsFromNought() {
        for (int springs = 1; springs <= 16; springs++) {
            LastWord x = Tape.of("sort k worth 1 ; chance k 6 ; springs " + springs + " ;");
            span("chooses, springs " + springs, 0, springs - 1, NONE, s -> x.chooses(s, 0, 0, true));
        }
        LastWord x = Tape.of("sort k worth 1 ; chance k 6 ;");
        span("value, 8 springs without", 0, 7, THROWS, s -> x.value(s, 0, 0, 0));
    }

    @Edge(of = "==== 2.", says = "of the sort told, nobody if that is told, else of each sort with its chance of six")
    static void whoComes() {
        LastWord x = Tape.of(thing("a", 3, 0, 0) + "sort kim worth a ; chance kim 6 ; sort lee worth a = 1 ;"
                + " spring 0 is nobody ; spring 1 is lee ; life 1 ; springs 3 ;");
        part("nobody comes", w -> x.odds(0, 0, w), 1, 1);
        part("lee comes, though her chance is 0", w -> x.odds(1, 1, w), 1, 1);
        part("kim comes, whose chance is 6", w -> x.odds(2, 2, w), 1, 1);
        part("lee does not", w -> x.odds(2, 1, w), 0, 1);
        LastWord y = Tape.of(thing("a", 2, 0, 0) + thing("b", 2, 0, 0) + thing("c", 2, 0, 0) + "sort kim worth a ;"
                + " chance kim 1 ; sort lee worth b ; chance lee 2 ; sort ann worth c ; chance ann 3 ; springs 1 ;");
        part("kim", w -> y.odds(0, 1, w), 1, 6);
        part("lee", w -> y.odds(0, 3, w), 1, 3);
        part("ann", w -> y.odds(0, 9, w), 1, 2);
        part("nobody does not", w -> y.odds(0, 0, w), 0, 1);
    }

    @Edge(of = "==== 2.", says = "One who COMES lives so many SPRINGS as life says (the first one, at AGE 0, too), not beyond"
            + " the last")
    static void lives() {
        int[] all = {1, 2, 5, 6, 15, 16};
        for (int life = 1; life <= 6; life++) {
            for (int springs : all) {
                LastWord x = Tape.of("sort k worth 1 ; sort l worth 100 * age + spring ; chance k 6 ; life " + life
                        + " ; springs " + springs + " ;");
                for (int s = 0; s < springs; s++) {
                    int years = Math.min(life, springs - s);
                    int sum = 0;
                    for (int age = 0; age < years; age++) {
                        sum += 100 * age + s + age;
                    }
                    due("life " + life + ", springs " + springs + ", value at " + s, x.value(s, 0, 0, 0), years);
                    due("life " + life + ", springs " + springs + ", ages from " + s, x.value(s, 1, 0, 0), sum);
                }
            }
        }
    }

    @Edge(of = "==== 2.", says = "WORTH of HOW IT STANDS to a sort at an AGE in a SPRING: its E, cut to -9999 .. 9999")
    static void worthIsCut() {
        String[] es = {"9998", "9999", "9999 + 1", "9999 * 9999", "0 - 9998", "0 - 9999", "0 - 9999 - 1", "0 - 9999 * 9999",
            "4096 * 4096 * 128", "4096 * 4096 * 128 - 1"};
        int[] worths = {9998, 9999, 9999, 9999, -9998, -9999, -9999, -9999, -9999, 9999};
        for (int i = 0; i < es.length; i++) {
            LastWord x = Tape.of("sort k worth " + es[i] + " ; chance k 6 ; life 6 ;");
            due("worth " + es[i], x.worth(0, 0, 0, 0), worths[i]);
            due("six times " + es[i], x.value(0, 0, 0, 0), 6 * worths[i]);
        }
    }

    @Edge(of = "==== 2.", says = "One who is asked may say THE SAME, or bring one THING to another state")
    static void oneThingAlone() {
        LastWord x = Tape.of(thing("a", 2, 0, 0) + thing("b", 2, 0, 0) + "sort k worth a + b ; chance k 6 ; life 1 ;");
        due("one of two", x.chooses(0, 0, 0, true), 1);
        none("both at once", () -> x.price(0, 0, 0, 4, 0));
        due("none", x.chooses(0, 0, 4, true), 4);
        LastWord y = Tape.of(thing("a", 2, 0, 0) + "bar 1 ; sort k worth a ; chance k 6 ;");
        due("THE SAME, though all is barred", y.chooses(0, 0, 0, true), 0);
        due("THE SAME, though all is barred", y.price(0, 0, 1, 1, 0), 0);
    }

    @Edge(of = "==== 2.", says = "bring one THING to another state")
    static void everyActThereIs() {
        String things = thing("a", 3, 0, 0) + thing("b", 3, 0, 0) + thing("c", 3, 0, 0);
        int[] acts = {0, 1, 2, 3, 6, 9, 18};
        for (int then : acts) {
            LastWord x = Tape.of(things + "sort k worth a + 3 * b + 9 * c = " + then + " ; chance k 6 ; life 1 ;"
                    + " sort l worth 0 ;");
            due("ahead to " + then, x.chooses(0, 0, then == 0 ? 18 : 0, true), then);
            due("plain to " + then, x.chooses(0, 0, then == 0 ? 18 : 0, false), then);
            due("the price of " + then, x.price(0, 1, 0, then, 0), 0);
        }
        LastWord x = Tape.of(things + "sort k worth 0 ; sort l worth a + 3 * b + 9 * c = 18 ; chance k 6 ;");
        due("the last of seven as a PRESENT", x.present(0, 0, 0, 0), 18);
    }

    @Edge(of = "==== 2.", says = "if the QUESTION of the SPRING is that THING or any (at first)")
    static void theQuestion() {
        LastWord x = Tape.of(thing("a", 2, 0, 0) + thing("b", 2, 0, 0) + thing("c", 2, 0, 0));
        for (int t = 0; t < 3; t++) {
            due("any at first", x.may(7, 0, t, 1), 1);
        }
        x.ask(7, 2);
        due("another", x.may(7, 0, 0, 1), 0);
        due("another", x.may(7, 0, 1, 1), 0);
        due("that one", x.may(7, 0, 2, 1), 1);
        due("of that SPRING alone", x.may(6, 0, 0, 1), 1);
        x.ask(7, -1);
        due("any again", x.may(7, 0, 0, 1), 1);
    }

    @Edge(of = "==== 2.", says = "a THING of stone is at its start")
    static void stoneAtItsStart() {
        LastWord x = Tape.of("thing a states 3 start 1 cost 0 stone ;");
        int[][] may = {{1, 0, 0}, {1, 1, 1}, {0, 0, 1}};
        for (int at = 0; at < 3; at++) {
            for (int state = 0; state < 3; state++) {
                due("from " + at + " to " + state, x.may(0, at, 0, state), may[at][state]);
            }
        }
        LastWord wood = Tape.of(thing("a", 3, 1, 0));
        due("of wood from 0 to 2", wood.may(0, 0, 0, 2), 1);
        LastWord other = Tape.of("thing a states 2 start 0 cost 0 stone ; thing b states 2 start 1 cost 0 ;");
        due("another THING is of stone", other.may(0, 1, 1, 1), 1);
    }

    @Edge(of = "==== 2.", says = "each bar's E is 0 for what comes of it")
    static void bars() {
        LastWord x = Tape.of(thing("a", 3, 0, 0) + thing("b", 3, 0, 0) + "bar a = 1 ; bar a = 2 ; bar b = 1 ; bar 0 - b ;");
        for (int t = 0; t < 2; t++) {
            for (int state = 1; state < 3; state++) {
                due("barred: " + t + " to " + state, x.may(0, 0, t, state), 0);
            }
        }
        due("out of what is barred", x.may(0, 1, 0, 0), 1);
        due("still barred by the other", x.may(0, 4, 0, 0), 0);
        due("no bar's E is 0", Tape.of(thing("a", 2, 0, 0) + "bar 0 ; bar 0 ; bar 0 ; bar 0 ;").may(0, 0, 0, 1), 1);
        due("the last one alone", Tape.of(thing("a", 2, 0, 0) + "bar 0 ; bar 0 ; bar 0 ; bar a ;").may(0, 0, 0, 1), 0);
        due("below 0 is not 0", Tape.of(thing("a", 2, 0, 0) + "bar 0 - 1 ;").may(0, 0, 0, 1), 0);
    }

    @Edge(of = "==== 2.", says = "That COSTS as told")
    static void costs() {
        LastWord x = Tape.of(thing("a", 2, 0, 999) + thing("b", 2, 1, 0) + "sort k worth 1000 * a - b ; chance k 6 ; life 1 ;"
                + " sort l worth 999 * a ;");
        due("1000 for 999", x.value(0, 0, 0, 0), 1);
        due("it stands so, for nothing", x.value(0, 0, 1, 0), 1000);
        due("999 for 999: THE SAME", x.chooses(0, 1, 0, true), 0);
        due("b back for 0", x.value(0, 0, 4, 0), 1000);
        x.pledge(0, 0, 0);
        due("pledged", x.value(0, 0, 1, 0), -999);
    }

    // ---- ==== 3.

    @Edge(of = "==== 3.", says = "of equal ones THE SAME, then the first THING, the least state")
    static void firstOfEqualActs() {
        LastWord x = Tape.of(thing("a", 3, 0, 1) + thing("b", 3, 0, 1) + "sort k worth not ( a = 0 and b = 0 ) ; chance k 6 ;"
                + " life 2 ; springs 2 ; sort l worth not ( a = 1 ) ;");
        for (int i = 0; i < 2; i++) {
            boolean ahead = i == 0;
            due("the first THING, the least state", x.chooses(0, 0, 0, ahead), 1);
            due("THE SAME", x.chooses(1, 0, 0, ahead), 0);
            due("the least state, from 1", x.chooses(0, 1, 1, ahead), 0);
            due("the least state, from 1, b at 2", x.chooses(0, 1, 7, ahead), 6);
        }
        x.ask(0, 1);
        due("of the THING in QUESTION", x.chooses(0, 0, 0, true), 3);
        LastWord y = Tape.of(thing("a", 3, 0, 0) + thing("b", 3, 0, 0) + "sort k worth 7 ; chance k 6 ; sort l worth 0 - 7 ;");
        for (int i = 0; i < 4; i++) {
            due("THE SAME, if it is all the same to her", y.chooses(0, i / 2, 4, i % 2 == 0), 4);
        }
    }

    @Edge(of = "==== 3.", says = "PLAIN: as if all stood so then for good")
    static void plain() {
        // lee would undo it at once: kim, who looks ahead, does not pay 6 for 5; plain she pays 6 for 10
        String text = thing("a", 2, 0, 6) + "sort kim worth 5 * a ; chance kim 6 ; sort lee worth 99 - 99 * a ;"
                + " spring 1 is lee ; life 2 ; springs 2 ;";
        due("ahead", Tape.of(text).chooses(0, 0, 0, true), 0);
        due("plain", Tape.of(text).chooses(0, 0, 0, false), 1);
        due("plain, in the last SPRING", Tape.of(text).chooses(1, 0, 0, false), 0);
        due("plain, life 1", Tape.of(text.replace("life 2", "life 1")).chooses(0, 0, 0, false), 0);
    }

    @Edge(of = "==== 3.", says = "whoever COMES in that SPRING does that if it may be done, THE SAME else (also if it stands so)")
    static void pledgesAreKept() {
        LastWord x = Tape.of(thing("a", 3, 1, 7) + thing("b", 2, 0, 9) + "bar a = 2 and b = 1 ; sort k worth 1 ; chance k 6 ;"
                + " life 1 ;");
        x.pledge(0, 0, 2);
        due("done", x.chooses(0, 0, 1, true), 2);
        due("for what it COSTS", x.value(0, 0, 1, 0), -6);
        due("it stands so", x.chooses(0, 0, 2, true), 2);
        due("it stands so, for nothing", x.value(0, 0, 2, 0), 1);
        due("barred", x.chooses(0, 0, 4, true), 4);
        due("barred, for nothing", x.value(0, 0, 4, 0), 1);
        x.stone(0, true);
        due("of stone, off its start", x.chooses(0, 0, 0, true), 0);
        due("of stone, at its start", x.chooses(0, 0, 1, true), 2);
        x.ask(0, 1);
        due("another QUESTION", x.chooses(0, 0, 1, true), 1);
    }

    @Edge(of = "==== 3.", says = "all know it")
    static void pledgesAreKnown() {
        // 10 less 6 is more than nothing, 5 less 6 is not
        LastWord x = Tape.of(TUG.replace("cost 3", "cost 6"));
        due("no PLEDGE", x.chooses(2, 0, 0, true), 1);
        x.pledge(3, 0, 0);
        due("a PLEDGE of the next SPRING", x.chooses(2, 0, 0, true), 0);
        x.pledge(3, -1, 0);
        due("none any more", x.chooses(2, 0, 0, true), 1);
        x.pledge(4, 0, 0);
        due("a PLEDGE behind the last SPRING", x.chooses(2, 0, 0, true), 1);
    }

    @Edge(of = "==== 3.", says = "VALUE: that sum (AHEAD's is likely, by chances)")
    static void valueIsLikely() {
        LastWord x = Tape.of(TUG);
        part("kim, of whom lee may come behind", w -> x.value(2, 0, 0, w), 9, 2);
        part("in the last SPRING nobody does", w -> x.value(3, 0, 0, w), 2, 1);
        // five chances in a row: a 1 in six each time that it is brought over
        LastWord y = Tape.of(thing("a", 2, 0, 0) + "sort kim worth a ; chance kim 1 ; sort lee worth 0 ; chance lee 5 ;"
                + " sort ann worth 7776 * ( age = 5 ) * a ; life 6 ; springs 6 ;");
        y.pledge(0, 0, 0);
        part("five chances", w -> y.value(0, 1, 0, w), 0, 1);
        part("five chances", w -> y.value(0, 2, 0, w), 7776 - 3125, 1);
        part("of kim", w -> y.value(0, 0, 0, w), 5 * 7776 - (5 * 1296 + 25 * 216 + 125 * 36 + 625 * 6 + 3125), 7776);
    }

    @Edge(of = "==== 3.", says = "ODDS of HOW IT STANDS at the end of a SPRING (0 to 6), from the start, AHEAD")
    static void oddsUpToSix() {
        LastWord x = Tape.of(thing("a", 2, 1, 0) + "sort kim worth 0 - a ; chance kim 1 ; sort lee worth 0 ; chance lee 5 ;"
                + " life 1 ; springs 16 ;");
        span("odds", 0, 6, THROWS, s -> x.odds(s, 0, 0));
        long above = 1;
        long below = 1;
        for (int s = 0; s <= 6; s++) {
            int spring = s;
            above *= 5;
            below *= 6;
            part("it stands as at the start", w -> x.odds(spring, 1, w), above, below);
            part("it does not", w -> x.odds(spring, 0, w), below - above, below);
        }
        LastWord least = Tape.of(thing("a", 2, 0, 0) + "sort kim worth 0 ; chance kim 1 ; sort lee worth a ; chance lee 5 ;"
                + " life 1 ; springs 7 ;");
        part("the least odds there are: kim came seven times", w -> least.odds(6, 0, w), 1, 279936);
        LastWord few = Tape.of(TUG);
        span("odds, 4 springs", 0, 3, THROWS, s -> few.odds(s, 0, 0));
    }

    @Edge(of = "==== 3.", says = "STIR: the likely number of those who did not say THE SAME up to it")
    static void stirUpToIt() {
        LastWord x = Tape.of(thing("a", 2, 0, 0) + "sort k worth a ; sort l worth 0 - a ; chance k 6 ; spring 1 is l ;"
                + " spring 3 is l ; spring 5 is l ; life 1 ; springs 16 ;");
        for (int s = 0; s <= 6; s++) {
            int spring = s;
            part("each one", w -> x.stir(spring, w), spring + 1, 1);
        }
        LastWord y = Tape.of(thing("a", 2, 0, 0) + "sort k worth a ; chance k 6 ; spring 0 is nobody ; life 1 ;");
        part("nobody", w -> y.stir(0, w), 0, 1);
        part("who comes then", w -> y.stir(1, w), 1, 1);
        part("THE SAME from then on", w -> y.stir(6, w), 1, 1);
        y.pledge(2, 0, 0);
        part("by a PLEDGE, and back", w -> y.stir(3, w), 3, 1);
        LastWord z = Tape.of(thing("a", 2, 0, 0) + "sort kim worth a ; chance kim 1 ; sort lee worth 0 ; chance lee 5 ;"
                + " life 1 ; springs 7 ;");
        part("one in six", w -> z.stir(0, w), 1, 6);
        part("1 less what is left", w -> z.stir(6, w), 279936 - 78125, 279936);
    }

    @Edge(of = "==== 3.", says = "SETTLED is HOW IT STANDS if in no SPRING any sort that may COME in it would do anything but"
            + " THE SAME, AHEAD (PLEDGES, too)")
    static void settledInNoSpring() {
        String text = thing("a", 2, 0, 0) + "sort k worth 0 ; chance k 6 ; sort l worth a ; life 1 ; ";
        due("l has no chance", Tape.of(text + "springs 16 ;").settled(0), 1);
        due("l comes in the first", Tape.of(text + "springs 16 ; spring 0 is l ;").settled(0), 0);
        due("l comes in the last", Tape.of(text + "springs 16 ; spring 15 is l ;").settled(0), 0);
        due("l comes behind the last", Tape.of(text + "springs 15 ; spring 15 is l ;").settled(0), 1);
        String one = text.replace("chance k 6", "chance k 5").replace("life 1", "chance l 1 ; life 1");
        due("l has the least chance there is", Tape.of(one).settled(0), 0);
        due("four sorts", Tape.of(text + "sort m worth 0 ; sort n worth 0 ;").settled(0), 1);
        due("l keeps it", Tape.of(text + "springs 15 ; spring 15 is l ;").settled(1), 1);
        LastWord x = Tape.of(text + "springs 2 ; spring 0 is nobody ;");
        x.pledge(0, 0, 1);
        due("pledged, but nobody comes", x.settled(0), 1);
        x.pledge(2, 0, 1);
        due("pledged behind the last", x.settled(0), 1);
        x.pledge(1, 0, 1);
        due("pledged", x.settled(0), 0);
        due("pledged, it stands so", x.settled(1), 1);
        LastWord none = Tape.of(thing("a", 2, 0, 0));
        none.pledge(0, 0, 1);
        due("no sort", none.settled(0), 1);
    }

    @Edge(of = "==== 3.", says = "PRICE of an act for one who is asked: her VALUE less that with the act")
    static void priceOfHerOwnActIsNothing() {
        LastWord x = Tape.of(TUG);
        part("hers", w -> x.price(2, 0, 0, 1, w), 0, 1);
        part("THE SAME", w -> x.price(2, 0, 0, 0, w), 2, 1);
        part("the other way, 15/2 less -1/2", w -> x.price(2, 0, 1, 0, w), 8, 1);
        part("hers, THE SAME", w -> x.price(2, 0, 1, 1, w), 0, 1);
        LastWord y = Tape.of(TUG.replace("kim 3", "kim 1").replace("lee 3", "lee 5"));
        part("5 and 5/6 less 3, less 5/6", w -> y.price(2, 0, 0, 0, w), 2, 1);
        LastWord z = Tape.of(TUG.replace("kim 3", "kim 1").replace("lee 3", "lee 5").replace("cost 3", "cost 5"));
        part("lee would not undo it: 10 less 5, nobody does it else", w -> z.price(2, 0, 0, 0, w), 5, 1);
        LastWord five = Tape.of(TUG.replace("kim 3", "kim 1").replace("lee 3", "lee 5").replace("cost 3", "cost 5")
                .replace("worth 5 - 5", "worth 6 - 6"));
        part("lee would undo it, and kim not do it again", w -> five.price(2, 0, 0, 0, w), 5, 6);
    }

    @Edge(of = "==== 3.", says = "GAIN of another one, of a sort and an AGE (1 to life less 1) in that SPRING")
    static void agesOfAnother() {
        for (int life = 2; life <= 6; life++) {
            LastWord x = Tape.of(thing("a", 2, 0, 0) + CARELESS.replace("life 6", "life " + life));
            span("gain, life " + life, 1, life - 1, THROWS, age -> x.gain(0, 0, 0, 1, 1, age, 0));
            span("lets, life " + life, 1, life - 1, THROWS, age -> x.lets(0, 0, 0, 1, 1, age, 0));
        }
        LastWord one = Tape.of(thing("a", 2, 0, 0) + CARELESS.replace("life 6", "life 1"));
        for (int age = -1; age <= 6; age++) {
            int a = age;
            none("gain, life 1, age " + age, () -> one.gain(0, 0, 0, 1, 1, a, 0));
            none("lets, life 1, age " + age, () -> one.lets(0, 0, 0, 1, 1, a, 0));
        }
    }

    @Edge(of = "==== 3.", says = "the likely sum of WORTHS for the SPRINGS that are left to that one")
    static void springsThatAreLeft() {
        LastWord x = Tape.of(thing("a", 2, 0, 2) + CARELESS);
        for (int age = 1; age <= 5; age++) {
            for (int s = 0; s < 16; s += s == 0 ? 10 : 1) {
                int spring = s;
                int of = age;
                long left = Math.min(6 - age, 16 - s);
                part("gain at " + s + " of age " + age, w -> x.gain(spring, 0, 0, 1, 1, of, w), left, 1);
                part("lets at " + s + " of age " + age, w -> x.lets(spring, 0, 0, 1, 1, of, w), left - 2, 1);
            }
        }
    }

    @Edge(of = "==== 3.", says = "of equal ones the first act (THE SAME, then by THINGS, states), then the first sort, the"
            + " least AGE")
    static void firstOfEqualPresents() {
        LastWord x = Tape.of(thing("a", 2, 0, 2) + CARELESS);
        long[] best = {1, 1, 1, 3, 1};
        long[] same = {0, 0, 1, 0, 1};
        for (int what = 0; what < 5; what++) {
            due("the first sort, the least AGE, what " + what, x.present(0, 0, 0, what), best[what]);
            due("1 less 2: THE SAME, what " + what, x.present(15, 0, 0, what), same[what]);
        }
        LastWord y = Tape.of(thing("a", 3, 0, 0) + thing("b", 3, 0, 0) + CARELESS.replace("worth a", "worth not ( a + b = 0 )"));
        long[] first = {1, 1, 1, 1, 1};
        long[] second = {3, 1, 1, 1, 1};
        for (int what = 0; what < 5; what++) {
            due("the first THING, the least state, the least AGE, what " + what, y.present(15, 0, 0, what), first[what]);
        }
        y.ask(15, 1);
        for (int what = 0; what < 5; what++) {
            due("the THING in QUESTION, what " + what, y.present(15, 0, 0, what), second[what]);
        }
        LastWord z = Tape.of(thing("a", 2, 0, 0) + CARELESS.replace("worth a", "worth a * age"));
        due("an AGE of 1 has most of it", z.present(0, 0, 0, 2), 1);
        due("in the last SPRING an AGE of 5 has", z.present(15, 0, 0, 2), 5);
        due("LETS of it", z.present(15, 0, 0, 3), 5);
    }

    @Edge(of = "==== 3.", says = "BIND: what the VALUE of one who is asked is more with a THING of stone than of wood")
    static void bindBothWays() {
        LastWord x = Tape.of(TUG);
        part("of wood now", w -> x.bind(0, 2, 0, 0, w), 5, 2);
        part("less", w -> x.bind(0, 3, 1, 1, w), -2, 1);
        x.stone(0, true);
        part("of stone now", w -> x.bind(0, 2, 0, 0, w), 5, 2);
        part("nothing, in the last SPRING", w -> x.bind(0, 3, 0, 0, w), 0, 1);
    }

    @Edge(of = "==== 3.", says = "ORDER: her VALUE if the QUESTIONS of this SPRING and the next one are two THINGS, less that if"
            + " they are these the other way round")
    static void orderBothWays() {
        LastWord x = Tape.of(thing("a", 2, 0, 0) + thing("b", 2, 0, 0) + "sort k worth a + 2 * b ; chance k 6 ; life 2 ;"
                + " springs 16 ; sort l worth 7 ;");
        part("b first is 1 more", w -> x.order(0, 1, 14, 0, 0, w), -1, 1);
        part("the other way round", w -> x.order(1, 0, 14, 0, 0, w), 1, 1);
        part("nothing to win", w -> x.order(1, 0, 0, 0, 4, w), 0, 1);
        part("all the same to her", w -> x.order(1, 0, 0, 1, 0, w), 0, 1);
        x.ask(14, 1);
        x.ask(15, 1);
        part("whatever is asked now", w -> x.order(0, 1, 14, 0, 0, w), -1, 1);
        due("which stays", x.may(14, 0, 0, 1) * 10 + x.may(15, 0, 0, 1), 0);
        LastWord y = Tape.of(thing("a", 2, 0, 0) + thing("b", 2, 0, 0) + thing("c", 2, 0, 0)
                + "sort k worth a + 10 * b + 100 * c ; chance k 6 ; life 2 ; springs 2 ;");
        long[][] differs = {{0, -9, -99}, {9, 0, -90}, {99, 90, 0}};
        for (int asked = 0; asked < 9; asked++) {
            y.ask(0, asked / 3);
            y.ask(1, asked % 3);
            for (int pair = 1; pair < 8; pair++) {
                if (pair / 3 != pair % 3) {
                    due(pair / 3 + " and " + pair % 3, y.order(pair / 3, pair % 3, 0, 0, 0, 0), differs[pair / 3][pair % 3]);
                }
            }
        }
    }

    @Edge(of = "==== 3.", says = "HOPES of a sort for a SPRING (0 to 6): by the ODDS of HOW IT STANDS ahead of it her likely"
            + " VALUE, if she COMES in it")
    static void hopesUpToSix() {
        LastWord x = Tape.of(thing("a", 2, 1, 0) + "sort kim worth 0 - a ; chance kim 1 ; sort lee worth 0 ; chance lee 5 ;"
                + " sort ann worth a ; life 1 ; springs 16 ; bar a ;");
        span("hopes", 0, 6, THROWS, s -> x.hopes(s, 2, 0));
        long above = 1;
        long below = 1;
        for (int s = 0; s <= 6; s++) {
            int spring = s;
            part("ann, who can't come and may not bring it back", w -> x.hopes(spring, 2, w), above, below);
            above *= 5;
            below *= 6;
        }
        LastWord few = Tape.of(TUG);
        span("hopes, 4 springs", 0, 3, THROWS, s -> few.hopes(s, 0, 0));
    }

    @Edge(of = "==== 3.", says = "VOW: the PLEDGE of that SPRING (instead of what is pledged) by which her HOPES are the greatest")
    static void vowInsteadOfWhatIsPledged() {
        LastWord x = Tape.of(TUG);
        x.pledge(3, 0, 0);
        part("as if nothing was pledged", w -> x.vow(3, 0, w + 1), 0, 1);
        due("the PLEDGE", x.vow(3, 0, 0), 1);
        due("what is pledged stays", x.chooses(3, 0, 1, true), 0);
        part("and counts for her HOPES", w -> x.hopes(3, 0, w), -3, 2);
        LastWord y = Tape.of(TUG);
        y.pledge(2, 0, 1);
        part("what is pledged in another SPRING holds: 5 either way", w -> y.vow(3, 0, w + 1), 0, 1);
        due("to stay at 1", y.vow(3, 0, 0), 1);
    }

    @Edge(of = "==== 3.", says = "of equal ones the first THING, then state")
    static void firstOfEqualVows() {
        String text = thing("a", 3, 1, 1) + thing("b", 2, 0, 0) + "sort k worth 0 ; chance k 6 ; life 1 ; sort l worth b ; ";
        LastWord x = Tape.of(text);
        due("a at 1, where it stands, for nothing; so is b", x.vow(0, 0, 0), 1);
        due("b to 1", x.vow(0, 1, 0), 4);
        due("the least state", Tape.of(text.replace("cost 1", "cost 0")).vow(0, 0, 0), 0);
        due("the greatest number of all", Tape.of(thing("a", 3, 1, 1) + thing("b", 3, 0, 0) + thing("c", 3, 0, 0)
                + "sort k worth c * c ; chance k 6 ;").vow(0, 0, 0), 8);
    }

    @Edge(of = "==== 3.", says = "by how much more than without any there (it may be below 0)")
    static void vowBelowNought() {
        // to 1 from 0 and stay at 2 is the best for kim, and no pledge tells both
        LastWord y = Tape.of(thing("a", 3, 0, 3) + "sort kim worth 5 * ( a = 1 ) + 4 * ( a = 2 ) ;"
                + " sort lee worth 9 * ( a = 2 ) ; chance lee 3 ; sort ann worth 0 ; chance ann 3 ; life 1 ; springs 2 ;");
        due("the PLEDGE", y.vow(1, 0, 0), 2);
        part("by half less", w -> y.vow(1, 0, w + 1), -1, 2);
        part("nothing more", w -> y.vow(0, 0, w + 1), 0, 1);
        LastWord z = Tape.of(TUG);
        part("nothing more than what she does without", w -> z.vow(0, 1, w + 1), 0, 1);
    }
}
