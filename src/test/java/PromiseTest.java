import java.util.NoSuchElementException;
import java.util.function.LongSupplier;

/** Each promise of the document with answers that were worked out by hand. */
public final class PromiseTest {
    /** Two who want the one thing each her own way; what it comes to is small enough to be worked out. */
    private static final String TUG = "thing a states 2 start 0 cost 3 ; sort kim worth 5 * a ; chance kim 3 ;"
            + " sort lee worth 5 - 5 * a ; chance lee 3 ; life 2 ; springs 4 ;";
    private static final String TWO = "thing a states 2 start 0 cost 0 ; thing b states 2 start 0 cost 0 ;"
            + " sort kim worth a + 2 * b ; chance kim 6 ; sort lee worth 0 - b ;";
    private static final String STONES = "thing a states 3 start 1 cost 7 stone ; thing b states 2 start 0 cost 999 ;"
            + " bar a = 2 and b = 1 ; sort kim worth a ; chance kim 6 ;";

    private static int wrong = 0;
    private static int promise = 0;

    private PromiseTest() {
    }

    private static void due(String call, long got, long want) {
        if (got != want) {
            wrong++;
            System.out.println("promise " + promise + ": " + call + " answered " + got + ", due is " + want);
        }
    }

    private static void due(String call, boolean got, boolean want) {
        due(call, got ? 1 : 0, want ? 1 : 0);
    }

    private static void none(String call, LongSupplier answer) {
        try {
            long got = answer.getAsLong();
            wrong++;
            System.out.println("promise " + promise + ": " + call + " answered " + got + ", but must throw");
        } catch (NoSuchElementException e) {
            // as it must
        }
    }

    private static void fault(String text, int kind, int place) {
        due("village() of: " + text, Tape.village(new LastWord(), text), kind + 16 * place);
    }

    /** The fault is of the last token of the text. */
    private static void faultAtLast(String text, int kind) {
        fault(text, kind, text.lastIndexOf(' ') + 1);
    }

    private static void fine(String text) {
        fault(text, 0, 0);
    }

    private static long worthOf(String formula, int age, int spring) {
        return Tape.of("thing a states 3 start 0 cost 0 ; thing b states 3 start 0 cost 0 ; sort k worth " + formula
                + " ; chance k 6 ;").worth(0, 7, age, spring);
    }

    private static void newObject() {
        LastWord x = new LastWord();
        long[] counts = {0, 0, 8, 4, 1, 0, 0, 0, 0, 0, 0, 0};
        for (int what = 0; what < counts.length; what++) {
            due("count(" + what + ")", x.count(what), counts[what]);
        }
        due("NONE", LastWord.NONE, -1);
        due("settled(0)", x.settled(0), 1);
        due("chooses(0, 0, 0, true)", x.chooses(0, 0, 0, true), -1);
        none("value(0, 0, 0, 0)", () -> x.value(0, 0, 0, 0));
        none("odds(0, 0, 0)", () -> x.odds(0, 0, 0));
        none("judged(0)", () -> x.judged(0));
        none("rowFares(0, false)", () -> x.rowFares(0, false));
        none("told(0, 0, 0)", () -> x.told(0, 0, 0));
    }

    private static void feeding() {
        LastWord x = new LastWord();
        due("feed of none", x.feed(0, -1, 0x80C3F0FF7F1F0B09L), 0);
        due("feed of 10, 32, 126, 65 and others", x.feed(0x0920_7E7F_0A1F_41FFL, 0, 0), 4);
        for (int i = 0; i < 41; i++) {
            due("feed to 988", x.feed(0x2020202020202020L, 0x2020202020202020L, 0x2020202020202020L), 28 + 24 * i);
        }
        due("feed beyond", x.feed(0x2020202020202020L, 0x2020202020202020L, 0x2020202020202020L), 1000);
        due("feed beyond", x.feed(0x2020202020202020L, 0, 0), 1000);
        due("count(10)", x.count(10), 1000);
        LastWord y = new LastWord();
        // "springs " "9 ; life" " 5 ;"
        due("feed", y.feed(0x737072696E677320L, 0x39203B206C696665L, 0x2035203B00000000L), 20);
        due("village()", y.village(), 0);
        due("count(2)", y.count(2), 9);
        due("count(3)", y.count(3), 5);
        due("count(10)", y.count(10), 0);
    }

    private static void faultsOfSentences() {
        fine("");
        fine(" \n ");
        fine(";".substring(1));
        fault(";", 1, 0);
        fault("thing", 1, 5);
        fault("thing ", 1, 6);
        for (String word : "thing states start cost stone sort worth chance spring is nobody bar life springs not and or age"
                .split(" ")) {
            fault("thing " + word, 1, 6);
            fault("sort " + word, 1, 5);
            fault("chance " + word, 1, 7);
        }
        faultAtLast("thing 3", 1);
        faultAtLast("thing a start", 1);
        faultAtLast("thing a states a", 1);
        faultAtLast("thing a states 1", 4);
        faultAtLast("thing a states 4", 4);
        faultAtLast("thing a states 3 start 3", 4);
        faultAtLast("thing a states 2 start 2", 4);
        faultAtLast("thing a states 2 start 1 cost 1000", 4);
        faultAtLast("thing a states 2 start 1 cost 1 wood", 1);
        faultAtLast("thing a states 2 start 1 cost 1 stone stone", 1);
        fine("thing a states 3 start 2 cost 999 stone ;");
        fine("thing abcdefgh states 2 start 0 cost 0 ;");
        faultAtLast("thing abcdefghi", 1);
        String a = "thing a states 2 start 0 cost 0 ; ";
        faultAtLast(a + "thing a", 3);
        faultAtLast(a + "sort a", 3);
        faultAtLast("sort k worth 1 ; sort k", 3);
        faultAtLast("sort k worth 1 ; thing k", 3);
        String three = a + a.replace(" a ", " b ") + a.replace(" a ", " c ");
        fine(three);
        faultAtLast(three + "thing", 5);
        String four = "sort k worth 1 ; sort l worth 1 ; sort m worth 1 ; sort n worth 1 ; ";
        faultAtLast(four + "sort", 5);
        fine(four + "chance n 6 ;");
        fine("bar 0 ; bar 0 ; bar 0 ; bar 0 ;");
        faultAtLast("bar 0 ; bar 0 ; bar 0 ; bar 0 ; bar", 5);
    }

    private static void faultsOfChances() {
        faultAtLast("chance k", 2);
        faultAtLast("thing a states 2 start 0 cost 0 ; chance a", 2);
        faultAtLast("sort k worth 1 ; chance k 7", 4);
        faultAtLast("sort k worth 1 ; chance k 6 ; chance k", 3);
        fault("sort k worth 1 ; chance k 5 ;", 6, 29);
        fault("sort k worth 1 ; chance k 5 ; \n", 6, 31);
        fault("sort k worth 1 ; sort l worth 1 ; chance k 6 ; chance l 1 ;", 6, 59);
        fault("sort k worth 1", 1, 14);
        fine("sort k worth 1 ; chance k 0 ; sort l worth 1 ; chance l 6 ;");
        fine("sort k worth 1 ; sort l worth 1 ; chance l 6 ;");
        fine("spring 15 is nobody ; spring 0 is nobody ;");
        faultAtLast("spring 16", 4);
        faultAtLast("spring kim", 1);
        faultAtLast("spring 3 is kim", 2);
        faultAtLast("spring 3 is 2", 1);
        faultAtLast("spring 3 is spring", 1);
        faultAtLast("spring 3 nobody", 1);
        faultAtLast("spring 3 is nobody ; spring 3", 3);
        faultAtLast("spring 3 is nobody ; spring 03", 3);
        faultAtLast("life 0", 4);
        faultAtLast("life 7", 4);
        faultAtLast("life 6 ; life", 3);
        faultAtLast("springs 0", 4);
        faultAtLast("springs 17", 4);
        faultAtLast("springs 16 ; springs", 3);
        fine("life 1 ; springs 16 ;");
    }

    private static void faultsOfTokens() {
        fine("life 0002 ;");
        faultAtLast("life 00002", 1);
        fine("life2;springs3;spring 2is nobody;");
        fault("life 2springs 3 ;", 1, 6);
        fault("Life 2 ;", 1, 0);
        fault("life 2 ; !", 1, 9);
        fault("life 2 ; abcdefghi ;", 1, 9);
        fault("liFe 2 ;", 1, 0);
        fault("thing aB", 1, 7);
        String cost = " states 2 start 0 cost 0 ; ";
        fine("thing ab" + cost + "thing ba" + cost + "thing aab" + cost + "sort abab worth ba ; chance abab 6 ;");
        fine("thing baaaaaaa" + cost + "thing aaaaaaaa" + cost + "thing aaaaaaa" + cost);
        faultAtLast("thing zzzzzzzz" + cost + "thing yzzzzzzz" + cost + "thing zzzzzzzz", 3);
        faultAtLast("thing zzzzzzzz" + cost + "bar zzzzzzz", 2);
    }

    private static void faultsOfFormulas() {
        faultAtLast("bar ;", 1);
        faultAtLast("bar age", 1);
        faultAtLast("bar spring", 1);
        faultAtLast("bar x", 2);
        faultAtLast("sort k worth k", 2);
        faultAtLast("sort k worth a", 2);
        faultAtLast("bar 1 2", 1);
        faultAtLast("bar 12345", 1);
        faultAtLast("bar 1 = 1 =", 1);
        faultAtLast("bar 1 < 1 <", 1);
        faultAtLast("bar 1 + ;", 1);
        faultAtLast("bar 1 and ;", 1);
        faultAtLast("bar -", 1);
        faultAtLast("bar ( 1 ;", 1);
        faultAtLast("bar 1 )", 1);
        fine("bar not not not not 1 ;");
        fine("bar ( ( ( ( 1 ) ) ) ) ;");
        fine("bar not ( not ( 1 ) ) + not ( not ( 1 ) ) ;");
        faultAtLast("bar not not not not not 1", 5);
        faultAtLast("bar not not not not not not", 5);
        faultAtLast("bar ( ( ( ( ( 1", 5);
        faultAtLast("bar ( ( ( ( ( (", 5);
        faultAtLast("bar ( not ( not ( not", 5);
        faultAtLast("bar ( ( ( ( ( x", 2);
        faultAtLast("bar ( ( ( ( ( age", 1);
        faultAtLast("bar ( ( ( ( ( )", 1);
    }

    private static void fullTape() {
        StringBuilder text = new StringBuilder("sort k worth 0");
        while (text.length() < 981) {
            text.append("+1");
        }
        text.append("; chance k 6 ;  ");
        due("length of the text", text.length(), 998);
        fine(text + "\n ");
        fault(text + " ;", 1, 999);
        fault(text + ";b", 1, 998);
        fault(text + ";;;;", 1, 998);
        fault(text.toString().replace("6 ;", "5 ;") + "  ", 6, 1000);
        fault(text.toString().replace("6 ;", "6  ") + "  ", 1, 1000);
        LastWord x = Tape.of(text.toString());
        due("worth", x.worth(0, 0, 0, 0), 484);
    }

    private static void villageStays() {
        LastWord x = Tape.of(STONES);
        x.ask(1, 1);
        x.pledge(2, 0, 0);
        x.stone(0, false);
        x.row(0, -1, 0);
        due("village()", Tape.village(x, "life 7 ;"), 4 + 16 * 5);
        due("count(0)", x.count(0), 2);
        due("count(8)", x.count(8), 1);
        due("count(9)", x.count(9), 1);
        due("count(10)", x.count(10), 0);
        due("count(11)", x.count(11), 1);
        due("thing(0, 3)", x.thing(0, 3), 0);
        x.mark(2, false);
        due("village()", Tape.village(x, STONES), 0);
        due("count(8)", x.count(8), 0);
        due("count(9)", x.count(9), 0);
        due("count(11)", x.count(11), 0);
        due("thing(0, 3)", x.thing(0, 3), 1);
        due("mark(2, true)", x.mark(2, true), true);
        due("thing(0, 3)", x.thing(0, 3), 0);
        due("village()", x.village(), 0);
        due("count(0)", x.count(0), 0);
    }

    private static void villages() {
        faultsOfSentences();
        faultsOfChances();
        faultsOfTokens();
        faultsOfFormulas();
        fullTape();
        villageStays();
    }

    private static void things() {
        LastWord x = Tape.of(STONES);
        long[][] all = {{3, 1, 7, 1}, {2, 0, 999, 0}};
        for (int thing = 0; thing < 2; thing++) {
            for (int what = 0; what < 4; what++) {
                due("thing(" + thing + ", " + what + ")", x.thing(thing, what), all[thing][what]);
            }
        }
        due("thing(2, 0)", x.thing(2, 0), -1);
        due("thing(-1, 0)", x.thing(-1, 0), -1);
        due("thing(0, 4)", x.thing(0, 4), -1);
        due("thing(0, -1)", x.thing(0, -1), -1);
    }

    private static void worths() {
        // 7: a stands at 1, b at 2
        due("a + 10 * b", worthOf("a + 10 * b", 0, 0), 21);
        due("2 + 3 * 4 - 1", worthOf("2 + 3 * 4 - 1", 0, 0), 13);
        due("10 - 3 - 2", worthOf("10 - 3 - 2", 0, 0), 5);
        due("1 or 1 and 0", worthOf("1 or 1 and 0", 0, 0), 0);
        due("0 and 0 or 5", worthOf("0 and 0 or 5", 0, 0), 1);
        due("2 and 4", worthOf("2 and 4", 0, 0), 1);
        due("2 < 3", worthOf("2 < 3", 0, 0), 1);
        due("3 < 3", worthOf("3 < 3", 0, 0), 0);
        due("1 + 2 = 3", worthOf("1 + 2 = 3", 0, 0), 1);
        due("( 2 < 3 ) = 2", worthOf("( 2 < 3 ) = 2", 0, 0), 0);
        due("not 0 + 5", worthOf("not 0 + 5", 0, 0), 6);
        due("not 7", worthOf("not 7", 0, 0), 0);
        due("not not b", worthOf("not not b", 0, 0), 1);
        due("100 * age + spring", worthOf("100 * age + spring", 5, 15), 515);
        String deep = "7 or 0 - 9 < 2 + 3 * ( ";
        due("as deep as may be", worthOf(deep + deep + deep + deep + "9 - 5 = 2 + 2 * 1 ) ) ) )", 0, 0), 1);
        due("as deep as may be", worthOf("2 + 2 * ( 2 + 2 * ( 2 + 2 * ( 2 + 2 * ( 1 ) ) ) )", 0, 0), 46);
        due("9999 + 1", worthOf("9999 + 1", 0, 0), 9999);
        due("0 - 9999 - 1", worthOf("0 - 9999 - 1", 0, 0), -9999);
        due("4096 * 4096 * 256 + 7", worthOf("4096 * 4096 * 256 + 7", 0, 0), 7);
        due("4096 * 4096 * 128", worthOf("4096 * 4096 * 128", 0, 0), -9999);
        LastWord x = Tape.of(TUG);
        none("worth(2, 0, 0, 0)", () -> x.worth(2, 0, 0, 0));
        none("worth(-1, 0, 0, 0)", () -> x.worth(-1, 0, 0, 0));
        none("worth(0, 2, 0, 0)", () -> x.worth(0, 2, 0, 0));
        none("worth(0, -1, 0, 0)", () -> x.worth(0, -1, 0, 0));
        none("worth(0, 0, 6, 0)", () -> x.worth(0, 0, 6, 0));
        none("worth(0, 0, -1, 0)", () -> x.worth(0, 0, -1, 0));
        none("worth(0, 0, 0, 16)", () -> x.worth(0, 0, 0, 16));
        none("worth(0, 0, 0, -1)", () -> x.worth(0, 0, 0, -1));
        due("worth(1, 0, 5, 15)", x.worth(1, 0, 5, 15), 5);
    }

    private static void mays() {
        LastWord x = Tape.of(STONES);
        due("stone at its start", x.may(0, 1, 0, 0), 1);
        due("stone off its start", x.may(0, 0, 0, 1), 0);
        due("it stands so", x.may(0, 0, 0, 0), 1);
        due("barred", x.may(0, 4, 0, 2), 0);
        due("barred the other way", x.may(0, 2, 1, 1), 0);
        due("out of what is barred", x.may(0, 5, 1, 0), 1);
        due("it stands so, though barred", x.may(0, 5, 1, 1), 1);
        x.ask(7, 1);
        due("another question", x.may(7, 1, 0, 0), 0);
        due("another question, it stands so", x.may(7, 1, 0, 1), 1);
        due("the question", x.may(7, 1, 1, 1), 1);
        due("may(8, 1, 0, 0)", x.may(8, 1, 0, 0), -1);
        due("may(-1, 1, 0, 0)", x.may(-1, 1, 0, 0), -1);
        due("may(0, 6, 0, 0)", x.may(0, 6, 0, 0), -1);
        due("may(0, 9, 0, 0)", x.may(0, 9, 0, 0), -1);
        due("may(0, 1, 2, 0)", x.may(0, 1, 2, 0), -1);
        due("may(0, 1, 0, 3)", x.may(0, 1, 0, 3), -1);
        due("may(0, 1, 1, 2)", x.may(0, 1, 1, 2), -1);
        due("may(0, 1, 0, -1)", x.may(0, 1, 0, -1), -1);
    }

    private static void choices() {
        LastWord x = Tape.of(TUG);
        due("kim", x.chooses(2, 0, 0, true), 1);
        due("kim", x.chooses(3, 0, 1, true), 1);
        due("lee", x.chooses(3, 1, 1, true), 0);
        due("lee, plain", x.chooses(3, 1, 1, false), 0);
        x.pledge(3, 0, 0);
        due("pledged", x.chooses(3, 0, 1, true), 0);
        due("pledged, it stands so", x.chooses(3, 0, 0, true), 0);
        due("plain: no pledge", x.chooses(3, 0, 0, false), 1);
        x.ask(3, -1);
        due("chooses(4, 0, 0, true)", x.chooses(4, 0, 0, true), -1);
        due("chooses(-1, 0, 0, true)", x.chooses(-1, 0, 0, true), -1);
        due("chooses(0, 2, 0, true)", x.chooses(0, 2, 0, true), -1);
        due("chooses(0, 0, 2, false)", x.chooses(0, 0, 2, false), -1);
        // lee would undo it at once: kim, who looks ahead, does not pay 6 for 5; plain she pays 6 for 10
        LastWord y = Tape.of("thing a states 2 start 0 cost 6 ; sort kim worth 5 * a ; chance kim 6 ;"
                + " sort lee worth 99 - 99 * a ; spring 1 is lee ; life 2 ; springs 2 ;");
        due("ahead", y.chooses(0, 0, 0, true), 0);
        due("plain", y.chooses(0, 0, 0, false), 1);
        // equal ones: THE SAME, then the first thing, then the least state
        LastWord z = Tape.of("thing a states 3 start 0 cost 1 ; thing b states 2 start 0 cost 1 ;"
                + " sort kim worth a = 2 or a = 1 or b ; chance kim 6 ; life 2 ; springs 2 ;");
        due("of equal ones", z.chooses(0, 0, 0, true), 1);
        due("of equal ones THE SAME", z.chooses(1, 0, 0, true), 0);
        z.ask(0, 1);
        due("the thing in question", z.chooses(0, 0, 0, true), 3);
    }

    private static void values() {
        LastWord x = Tape.of(TUG);
        due("above", x.value(2, 0, 0, 0), 9);
        due("below", x.value(2, 0, 0, 1), 2);
        due("above", x.value(2, 0, 1, 0), 15);
        due("at the last spring", x.value(3, 0, 0, 0), 2);
        due("below", x.value(3, 0, 0, 1), 1);
        x.pledge(3, 0, 0);
        due("pledged", x.value(3, 0, 1, 0), -3);
        due("pledged", x.value(3, 0, 1, 1), 1);
        due("nothing", x.value(3, 0, 0, 0), 0);
        due("nothing", x.value(3, 0, 0, 1), 1);
        due("ahead of a pledge", x.value(2, 0, 0, 0), 2);
        none("what 2", () -> x.value(0, 0, 0, 2));
        none("what -1", () -> x.value(0, 0, 0, -1));
        none("spring 4", () -> x.value(4, 0, 0, 0));
        none("sort 2", () -> x.value(0, 2, 0, 0));
        none("stands 2", () -> x.value(0, 0, 2, 0));
        LastWord y = Tape.of("sort kim worth 0 - spring - age ; chance kim 6 ; life 6 ; springs 3 ;");
        due("not beyond the last spring", y.value(1, 0, 0, 0), -4);
    }

    private static void questions() {
        LastWord x = Tape.of(TWO);
        due("ask(0, 0)", x.ask(0, 0), true);
        due("ask(15, 1)", x.ask(15, 1), true);
        due("count(9)", x.count(9), 2);
        due("chooses", x.chooses(0, 0, 0, true), 1);
        due("ask(0, -1)", x.ask(0, -1), true);
        due("count(9)", x.count(9), 1);
        due("chooses", x.chooses(0, 0, 0, true), 3);
        due("ask(16, 0)", x.ask(16, 0), false);
        due("ask(-1, 0)", x.ask(-1, 0), false);
        due("ask(0, 2)", x.ask(0, 2), false);
        due("ask(0, -2)", x.ask(0, -2), false);
        due("count(9)", x.count(9), 1);
    }

    private static void pledges() {
        LastWord x = Tape.of(STONES);
        due("pledge(0, 0, 2)", x.pledge(0, 0, 2), true);
        due("pledge(15, 1, 1)", x.pledge(15, 1, 1), true);
        due("count(8)", x.count(8), 2);
        due("done", x.chooses(0, 0, 1, true), 2);
        due("may not be done: stone", x.chooses(0, 0, 0, true), 0);
        due("may not be done: barred", x.chooses(0, 0, 4, true), 4);
        x.ask(0, 1);
        due("may not be done: another question", x.chooses(0, 0, 1, true), 1);
        due("pledge(0, -1, 77)", x.pledge(0, -1, 77), true);
        due("count(8)", x.count(8), 1);
        due("pledge(16, 0, 0)", x.pledge(16, 0, 0), false);
        due("pledge(-1, 0, 0)", x.pledge(-1, 0, 0), false);
        due("pledge(16, -1, 0)", x.pledge(16, -1, 0), false);
        due("pledge(0, 2, 0)", x.pledge(0, 2, 0), false);
        due("pledge(0, 1, 2)", x.pledge(0, 1, 2), false);
        due("pledge(0, 0, -1)", x.pledge(0, 0, -1), false);
        due("count(8)", x.count(8), 1);
    }

    private static void stones() {
        LastWord x = Tape.of(STONES);
        due("stone(0, false)", x.stone(0, false), true);
        due("thing(0, 3)", x.thing(0, 3), 0);
        due("may", x.may(0, 0, 0, 1), 1);
        due("stone(1, true)", x.stone(1, true), true);
        due("thing(1, 3)", x.thing(1, 3), 1);
        due("may", x.may(0, 3, 1, 0), 0);
        due("stone(2, true)", x.stone(2, true), false);
        due("stone(-1, true)", x.stone(-1, true), false);
        LastWord y = Tape.of(TUG);
        due("wood", y.value(2, 0, 0, 0), 9);
        y.stone(0, true);
        due("stone: lee can't undo it", y.value(2, 0, 0, 0), 7);
        due("stone: kim can't either", y.chooses(3, 1, 1, true), 1);
    }

    private static void odds() {
        LastWord x = Tape.of(TUG);
        due("above", x.odds(0, 1, 0), 1);
        due("below", x.odds(0, 1, 1), 2);
        due("above", x.odds(3, 0, 0), 1);
        due("below", x.odds(3, 0, 1), 2);
        none("spring 4", () -> x.odds(4, 0, 0));
        none("spring -1", () -> x.odds(-1, 0, 0));
        none("stands 2", () -> x.odds(0, 2, 0));
        none("what 2", () -> x.odds(0, 0, 2));
        // one of six comes who brings it over for good
        LastWord y = Tape.of("thing a states 2 start 0 cost 0 ; sort kim worth a ; chance kim 1 ;"
                + " sort lee worth 0 ; chance lee 5 ; life 1 ; springs 9 ;");
        due("above", y.odds(6, 0, 0), 78125);
        due("below", y.odds(6, 0, 1), 279936);
        due("above", y.odds(6, 1, 0), 201811);
        none("spring 7", () -> y.odds(7, 0, 0));
        LastWord z = Tape.of("thing a states 2 start 0 cost 0 ;");
        none("no sort", () -> z.odds(0, 0, 0));
    }

    private static void stirs() {
        LastWord x = Tape.of(TUG);
        due("above", x.stir(0, 0), 1);
        due("below", x.stir(0, 1), 2);
        due("above", x.stir(1, 0), 1);
        due("below", x.stir(1, 1), 1);
        due("above", x.stir(2, 0), 3);
        due("below", x.stir(2, 1), 2);
        none("spring 4", () -> x.stir(4, 0));
        none("what 2", () -> x.stir(0, 2));
        LastWord y = Tape.of("thing a states 2 start 0 cost 0 ; sort kim worth a ; chance kim 6 ; springs 16 ;");
        due("spring 6", y.stir(6, 0), 1);
        none("spring 7", () -> y.stir(7, 0));
        LastWord z = Tape.of("springs 4 ;");
        none("no sort", () -> z.stir(0, 0));
    }

    private static void settling() {
        LastWord x = Tape.of(TUG);
        due("settled(0)", x.settled(0), 0);
        due("settled(1)", x.settled(1), 0);
        due("settled(2)", x.settled(2), -1);
        due("settled(-1)", x.settled(-1), -1);
        x.stone(0, true);
        due("stone off its start", x.settled(1), 1);
        // lee would undo it, but has no chance; kim keeps it
        LastWord y = Tape.of("thing a states 2 start 0 cost 0 ; sort kim worth a ; chance kim 6 ;"
                + " sort lee worth 0 - a ; springs 4 ;");
        due("settled(1)", y.settled(1), 1);
        due("settled(0)", y.settled(0), 0);
        y.pledge(3, 0, 0);
        due("settled(1), pledged otherwise", y.settled(1), 0);
        y.pledge(3, -1, 0);
        y.pledge(4, 0, 0);
        due("settled(1), pledged behind the last spring", y.settled(1), 1);
        LastWord z = Tape.of("thing a states 2 start 0 cost 0 ; sort kim worth a ; chance kim 6 ;"
                + " sort lee worth 0 - a ; spring 2 is lee ; springs 3 ;");
        due("settled(1), lee is told", z.settled(1), 0);
    }

    private static void prices() {
        LastWord x = Tape.of(TUG);
        due("THE SAME", x.price(2, 0, 0, 0, 0), 2);
        due("below", x.price(2, 0, 0, 0, 1), 1);
        due("hers", x.price(2, 0, 0, 1, 0), 0);
        due("the other way", x.price(2, 0, 1, 0, 0), 8);
        x.ask(2, 0);
        due("in question", x.price(2, 0, 0, 1, 0), 0);
        none("then 2", () -> x.price(2, 0, 0, 2, 0));
        none("then -1", () -> x.price(2, 0, 0, -1, 0));
        none("what 2", () -> x.price(2, 0, 0, 0, 2));
        none("spring 4", () -> x.price(4, 0, 0, 0, 0));
        x.stone(0, true);
        none("she may not do it", () -> x.price(2, 0, 1, 0, 0));
        x.pledge(2, 0, 0);
        none("pledged", () -> x.price(2, 0, 0, 0, 0));
        LastWord y = Tape.of(TWO);
        none("two things at once", () -> y.price(0, 0, 0, 4, 0));
        due("one thing", y.price(7, 0, 0, 1, 0), 1);
    }

    private static void gains() {
        LastWord x = Tape.of(TUG);
        due("lee", x.gain(2, 0, 0, 0, 1, 1, 0), 5);
        due("below", x.gain(2, 0, 0, 0, 1, 1, 1), 1);
        due("kim", x.gain(2, 0, 0, 0, 0, 1, 0), -5);
        due("her own act", x.gain(2, 0, 0, 1, 1, 1, 0), 0);
        none("age 0", () -> x.gain(2, 0, 0, 0, 1, 0, 0));
        none("age 2", () -> x.gain(2, 0, 0, 0, 1, 2, 0));
        none("sort 2", () -> x.gain(2, 0, 0, 0, 2, 1, 0));
        none("what 2", () -> x.gain(2, 0, 0, 0, 1, 1, 2));
        x.pledge(2, 0, 0);
        none("pledged", () -> x.gain(2, 0, 0, 0, 1, 1, 0));
        // two springs are left to an age of 1, and what comes in the second is a matter of chance
        LastWord y = Tape.of(TUG.replace("life 2", "life 3"));
        due("kim, two springs", y.gain(2, 0, 0, 0, 0, 1, 0), -5);
        due("kim, one spring", y.gain(3, 0, 0, 0, 0, 2, 0), -5);
    }

    private static void letting() {
        LastWord x = Tape.of(TUG);
        due("lee", x.lets(2, 0, 0, 0, 1, 1, 0), 3);
        due("below", x.lets(2, 0, 0, 0, 1, 1, 1), 1);
        due("kim", x.lets(2, 0, 0, 0, 0, 1, 0), -7);
        due("her own act", x.lets(2, 0, 0, 1, 0, 1, 0), 0);
        none("age 2", () -> x.lets(2, 0, 0, 0, 1, 2, 0));
        none("then 3", () -> x.lets(2, 0, 0, 3, 1, 1, 0));
        x.pledge(2, 0, 0);
        none("pledged", () -> x.lets(2, 0, 0, 0, 1, 1, 0));
    }

    private static void presents() {
        LastWord x = Tape.of(TUG);
        long[] all = {0, 1, 1, 3, 1};
        for (int what = 0; what < 5; what++) {
            due("present(2, 0, 0, " + what + ")", x.present(2, 0, 0, what), all[what]);
        }
        none("what 5", () -> x.present(2, 0, 0, 5));
        none("what -1", () -> x.present(2, 0, 0, -1));
        none("spring 4", () -> x.present(4, 0, 0, 0));
        none("sort 2", () -> x.present(2, 2, 0, 0));
        x.pledge(2, 0, 0);
        none("pledged", () -> x.present(2, 0, 0, 0));
        LastWord y = Tape.of(TUG.replace("life 2", "life 1"));
        none("life 1", () -> y.present(2, 0, 0, 0));
        // nobody has anything of it: the first act, the first sort, the least age
        LastWord z = Tape.of("thing a states 2 start 0 cost 0 ; sort kim worth 0 ; chance kim 6 ; sort lee worth 1 ;");
        long[] first = {1, 0, 1, 0, 1};
        for (int what = 0; what < 5; what++) {
            due("present(0, 0, 1, " + what + ")", z.present(0, 0, 1, what), first[what]);
        }
    }

    private static void hoping() {
        LastWord x = Tape.of(TUG);
        due("above", x.hopes(0, 0, 0), 9);
        due("below", x.hopes(0, 0, 1), 2);
        due("above", x.hopes(2, 0, 0), 6);
        due("below", x.hopes(2, 0, 1), 1);
        due("above", x.hopes(3, 0, 0), 7);
        due("below", x.hopes(3, 0, 1), 2);
        none("spring 4", () -> x.hopes(4, 0, 0));
        none("spring -1", () -> x.hopes(-1, 0, 0));
        none("sort 2", () -> x.hopes(0, 2, 0));
        none("what 2", () -> x.hopes(0, 0, 2));
        LastWord y = Tape.of("sort kim worth 2 ; chance kim 6 ; springs 16 ;");
        due("spring 6", y.hopes(6, 0, 0), 8);
        none("spring 7", () -> y.hopes(7, 0, 0));
    }

    private static void vows() {
        LastWord x = Tape.of(TUG);
        due("kim", x.vow(3, 0, 0), 1);
        due("kim, above", x.vow(3, 0, 1), 0);
        due("kim, below", x.vow(3, 0, 2), 1);
        due("lee", x.vow(3, 1, 0), 0);
        x.pledge(3, 0, 0);
        due("instead of what is pledged", x.vow(3, 0, 0), 1);
        due("instead of what is pledged", x.vow(3, 0, 1), 0);
        due("what is pledged stays", x.chooses(3, 0, 1, true), 0);
        due("what is pledged stays", x.count(8), 1);
        none("spring 4", () -> x.vow(4, 0, 0));
        none("sort 2", () -> x.vow(0, 2, 0));
        none("what 3", () -> x.vow(0, 0, 3));
        none("what -1", () -> x.vow(0, 0, -1));
        LastWord none = Tape.of("sort kim worth 1 ; chance kim 6 ;");
        none("no thing", () -> none.vow(0, 0, 0));
        // to 1 from 0 and stay at 2 is the best for kim, and no pledge tells both
        LastWord y = Tape.of("thing a states 3 start 0 cost 3 ; sort kim worth 5 * ( a = 1 ) + 4 * ( a = 2 ) ;"
                + " sort lee worth 9 * ( a = 2 ) ; chance lee 3 ; sort ann worth 0 ; chance ann 3 ; life 1 ; springs 2 ;");
        due("hopes", y.hopes(1, 0, 0), 3);
        due("below 0", y.vow(1, 0, 0), 2);
        due("below 0, above", y.vow(1, 0, 1), -1);
        due("below 0, below", y.vow(1, 0, 2), 2);
    }

    private static void binding() {
        LastWord x = Tape.of(TUG);
        due("above", x.bind(0, 2, 0, 0, 0), 5);
        due("below", x.bind(0, 2, 0, 0, 1), 2);
        due("it stays of wood", x.thing(0, 3), 0);
        x.stone(0, true);
        due("above", x.bind(0, 2, 0, 0, 0), 5);
        due("it stays of stone", x.thing(0, 3), 1);
        // lee at 1, in the last spring, can't undo it: 0 instead of 2
        due("lee", x.bind(0, 3, 1, 1, 0), -2);
        none("thing 1", () -> x.bind(1, 2, 0, 0, 0));
        none("thing -1", () -> x.bind(-1, 2, 0, 0, 0));
        none("spring 4", () -> x.bind(0, 4, 0, 0, 0));
        none("sort 2", () -> x.bind(0, 0, 2, 0, 0));
        none("stands 2", () -> x.bind(0, 0, 0, 2, 0));
        none("what 2", () -> x.bind(0, 0, 0, 0, 2));
    }

    private static void ordering() {
        // b first is worth 2 in the first spring and 3 in the second, a first 1 and 3
        LastWord x = Tape.of(TWO + " life 2 ; springs 2 ;");
        due("a, b", x.order(0, 1, 0, 0, 0, 0), -1);
        due("below", x.order(0, 1, 0, 0, 0, 1), 1);
        due("b, a", x.order(1, 0, 0, 0, 0, 0), 1);
        x.ask(0, 0);
        due("the questions of before do not matter", x.order(1, 0, 0, 0, 0, 0), 1);
        due("they stay", x.count(9), 1);
        due("they stay", x.may(0, 0, 1, 1), 0);
        none("the same", () -> x.order(0, 0, 0, 0, 0, 0));
        none("thing 2", () -> x.order(0, 2, 0, 0, 0, 0));
        none("thing -1", () -> x.order(-1, 0, 0, 0, 0, 0));
        none("no spring behind it", () -> x.order(0, 1, 1, 0, 0, 0));
        none("spring -1", () -> x.order(0, 1, -1, 0, 0, 0));
        none("spring MAX", () -> x.order(0, 1, Integer.MAX_VALUE, 0, 0, 0));
        none("sort 2", () -> x.order(0, 1, 0, 2, 0, 0));
        none("stands 2", () -> x.order(0, 1, 0, 0, 2, 0));
        none("what 2", () -> x.order(0, 1, 0, 0, 0, 2));
    }

    /** Of seed 1 kim, lee, lee, kim come, by LOTS kim, lee, kim, kim. */
    private static final int[][][] STOOD_CAME_ASKED_CHANGED = {
        {{1, 0, 0, 1}, {0, 1, 1, 0}, {0, 1, 2, 3}, {0, 0, -1, 0}},
        {{1, 0, 0, 1}, {0, 1, 1, 0}, {0, 1, 2, 3}, {0, 0, -1, 0}},
        {{0, 1, 0, 0}, {0, 1, 1, 0}, {-1, 0, 1, 2}, {-1, 0, 0, -1}},
        {{1, 1, 0, 1}, {0, 1, 0, 0}, {0, 0, 1, 2}, {0, -1, 0, 0}},
        {{1, 0, 0, 0}, {0, 1, 1, 0}, {0, 1, 2, 3}, {0, 0, -1, -1}},
        {{0, 0, 0, 0}, {0, 1, 1, 0}, {-1, -1, -1, -1}, {-1, -1, -1, -1}},
    };
    private static final int[][] FARES = {
        {2, 7, 5, 2}, {2, 7, 5, 2}, {2, 2, 10, 0}, {7, 2, 2, 5}, {5, 10, 10, 0}, {0, 10, 10, 0},
    };
    /** LASTS, BACK, ALL, THE SAME, asked, COSTS. */
    private static final int[][] TOLD = {
        {1, 2, 16, 1, 4, 9}, {1, 2, 16, 1, 4, 9}, {2, 1, 14, 1, 3, 6}, {1, 2, 16, 1, 4, 9}, {3, 1, 25, 2, 4, 6},
        {4, 0, 20, 0, 0, 0},
    };

    private static void centuries() {
        LastWord x = Tape.of(TUG);
        for (int rule = 0; rule < 6; rule++) {
            for (int what = 0; what < 4; what++) {
                for (int spring = 0; spring < 4; spring++) {
                    due("century(1, " + rule + ", " + spring + ", " + what + ")", x.century(1, rule, spring, what),
                            STOOD_CAME_ASKED_CHANGED[rule][what][spring]);
                }
            }
        }
        none("seed -1", () -> x.century(-1, 0, 0, 0));
        none("seed 10000", () -> x.century(10000, 0, 0, 0));
        due("seed 9999", x.century(9999, 0, 0, 1), 1);
        none("rule -1", () -> x.century(0, -1, 0, 0));
        none("rule 6", () -> x.century(0, 6, 0, 0));
        none("spring 4", () -> x.century(0, 0, 4, 0));
        none("what 4", () -> x.century(0, 0, 0, 4));
        LastWord bare = Tape.of("thing a states 2 start 0 cost 0 ;");
        none("no sort", () -> bare.century(0, 0, 0, 0));
        // a told spring draws nothing: the draws 2, 4, 3 of seed 1 are for the springs 0, 2, 3
        LastWord y = Tape.of(TUG + " spring 1 is nobody ;");
        int[] came = {0, -1, 1, 1};
        for (int spring = 0; spring < 4; spring++) {
            due("who comes where nobody is told", y.century(1, 0, spring, 1), came[spring]);
        }
        due("nobody is asked", y.century(1, 0, 1, 2), -1);
        due("by 4 the last of them", y.century(1, 4, 1, 2), 0);
        // by lots a told spring draws an age all the same: 2 kim, 4: age 0; 3: age 1; 1 kim
        due("lots", y.century(1, 3, 1, 2), 0);
        due("lots", y.century(1, 3, 2, 1), 0);
        x.pledge(1, 0, 1);
        due("a pledge holds by 1", x.century(1, 1, 1, 0), 1);
        due("a pledge holds by 4", x.century(1, 4, 1, 0), 1);
        x.pledge(0, 0, 1);
        due("a pledge if somebody is asked", x.century(1, 2, 0, 0), 0);
        due("a pledge if somebody is asked", x.century(1, 5, 0, 0), 0);
        x.pledge(0, -1, 0);
        x.pledge(1, -1, 0);
        LastWord z = Tape.of(TWO + " life 1 ;");
        z.ask(0, 0);
        for (int rule = 0; rule < 5; rule++) {
            due("a question holds by each rule", z.century(1, rule, 0, 0), 1);
        }
    }

    private static void faring() {
        LastWord x = Tape.of(TUG);
        for (int rule = 0; rule < 6; rule++) {
            for (int spring = 0; spring < 4; spring++) {
                due("fares(1, " + rule + ", " + spring + ")", x.fares(1, rule, spring), FARES[rule][spring]);
            }
        }
        none("spring 4", () -> x.fares(1, 0, 4));
        none("spring -1", () -> x.fares(1, 0, -1));
        none("seed 10000", () -> x.fares(10000, 0, 0));
        none("rule 6", () -> x.fares(0, 6, 0));
        LastWord y = Tape.of(TUG + " spring 1 is nobody ;");
        none("nobody came", () -> y.fares(1, 0, 1));
    }

    private static void telling() {
        LastWord x = Tape.of(TUG);
        for (int rule = 0; rule < 6; rule++) {
            for (int what = 0; what < 6; what++) {
                due("told(1, " + rule + ", " + what + ")", x.told(1, rule, what), TOLD[rule][what]);
            }
        }
        none("what 6", () -> x.told(1, 0, 6));
        none("what -1", () -> x.told(1, 0, -1));
        none("seed 10000", () -> x.told(10000, 0, 0));
        none("rule 6", () -> x.told(0, 6, 0));
        LastWord bare = new LastWord();
        none("no sort", () -> bare.told(0, 0, 0));
    }

    private static void bestRules() {
        LastWord x = Tape.of(TUG);
        due("bestRule(1)", x.bestRule(1), 4);
        due("bestRule(12)", x.bestRule(12), 4);
        due("bestRule(0)", x.bestRule(0), -1);
        due("bestRule(13)", x.bestRule(13), -1);
        due("of equal ones the first", Tape.of(TUG.replace("cost 3", "cost 999")).bestRule(2), 0);
        // of stone, and a harm to all but the first: nobody should be asked
        LastWord y = Tape.of("thing a states 2 start 0 cost 0 stone ; sort kim worth a ; sort lee worth 0 - 9 * a ;"
                + " chance lee 6 ; spring 0 is kim ; life 3 ; springs 3 ;");
        due("nobody is asked", y.bestRule(1), 5);
        due("ELDEST", y.told(0, 2, 2), -17);
        due("ALL", y.told(0, 4, 2), -24);
        due("no sort", new LastWord().bestRule(1), -1);
    }

    private static void bringing() {
        LastWord x = Tape.of(TWO + " spring 0 is kim ; spring 1 is kim ; life 1 ; springs 2 ;");
        due("brought(1)", x.brought(1), 2);
        due("brought(2)", x.brought(2), 3);
        due("brought(3)", x.brought(3), -1);
        due("brought(0)", x.brought(0), -1);
        due("brought(4)", x.brought(4), -1);
        LastWord y = Tape.of(TWO + " spring 0 is kim ; spring 1 is nobody ;");
        due("nobody is told", y.brought(2), 2);
        due("not told", y.brought(3), -1);
        due("fewer springs", Tape.of(TWO + " spring 0 is kim ; spring 1 is kim ; springs 1 ;").brought(2), -1);
        due("no sort", Tape.of("spring 0 is nobody ;").brought(1), -1);
        x.ask(0, 0);
        x.ask(1, 1);
        due("the questions of before do not matter", x.brought(2), 3);
        due("they stay", x.count(9), 2);
        due("they stay", x.may(0, 0, 1, 1), 0);
        due("they stay", x.may(1, 0, 0, 1), 0);
    }

    private static void rowsFor() {
        LastWord x = Tape.of(TWO + " spring 0 is kim ; spring 1 is kim ; life 1 ; springs 2 ;");
        due("rowFor(1, 3)", x.rowFor(1, 3), 0);
        due("rowFor(1, 1)", x.rowFor(1, 1), 1);
        due("rowFor(1, 0)", x.rowFor(1, 0), -1);
        due("rowFor(2, 4)", x.rowFor(2, 4), 0);
        due("rowFor(2, 3)", x.rowFor(2, 3), 2);
        due("rowFor(2, 1)", x.rowFor(2, 1), 4);
        due("rowFor(2, 0)", x.rowFor(2, 0), -1);
        due("rowFor(2, 99)", x.rowFor(2, 99), -1);
        due("rowFor(2, -1)", x.rowFor(2, -1), -1);
        due("rowFor(3, 0)", x.rowFor(3, 0), -1);
    }

    private static void bestRows() {
        LastWord x = Tape.of(TWO + " spring 0 is kim ; spring 1 is kim ; life 1 ; springs 2 ;");
        due("bestRow(1, 0)", x.bestRow(1, 0), 0);
        due("bestRow(2, 0)", x.bestRow(2, 0), 0);
        due("bestRow(1, 2)", x.bestRow(1, 2), -1);
        due("bestRow(1, -1)", x.bestRow(1, -1), -1);
        due("bestRow(3, 0)", x.bestRow(3, 0), -1);
        // lee would undo b unless the question is a
        LastWord y = Tape.of(TWO + " spring 0 is kim ; spring 1 is lee ; life 2 ; springs 2 ;");
        due("bestRow(2, 0)", y.bestRow(2, 0), 1);
        LastWord z = Tape.of(TWO + " spring 0 is nobody ; life 2 ; springs 2 ;");
        due("as if she was asked there", z.bestRow(1, 0), 0);
        due("not told", z.bestRow(2, 0), -1);
    }

    private static void rowing() {
        LastWord x = new LastWord();
        for (int i = 1; i <= 16; i++) {
            due("row", x.row(i == 3 ? 77 : -1, i == 4 ? -9 : -1, 99), i);
        }
        due("row, 16 are there", x.row(-1, -1, 0), -1);
        due("count(11)", x.count(11), 16);
    }

    private static void clearing() {
        LastWord x = new LastWord();
        due("clear()", x.clear(), true);
        x.row(0, 0, 0);
        due("clear()", x.clear(), true);
        due("count(11)", x.count(11), 0);
        due("row", x.row(0, 0, 0), 1);
    }

    private static long judge(LastWord x, int what, int... rows) {
        x.clear();
        for (int i = 0; i < rows.length; i += 3) {
            x.row(rows[i], rows[i + 1], rows[i + 2]);
        }
        return x.judged(what);
    }

    private static void judging() {
        LastWord x = Tape.of(TUG + " spring 1 is nobody ; spring 2 is lee ;");
        int[] good = {0, 0, 1, -1, -1, 0, 1, -1, 7, 0, 0, 1};
        long[] all = {-1, 0, 1, 2, 1, 4};
        for (int what = 0; what < 6; what++) {
            due("judged(" + what + ")", judge(x, what, good), all[what]);
        }
        int[][] bad = {
            {0, -1, 0, -1, -1, 0, 1, -1, 0, 0, -1, 0, 0, -1, 0}, {2, -1, 0}, {-2, -1, 0}, {0, -1, 0, 0, -1, 0},
            {0, -1, 0, -1, -1, 0, 0, -1, 0}, {0, -1, 0, -1, -1, 0, -1, -1, 0}, {0, 1, 0}, {0, 0, 2}, {0, -2, 0},
            {0, -1, 0, -1, 0, 0}, {2, 5, 5}, {0, 0, -1},
        };
        int[] at = {4, 0, 0, 1, 2, 2, 0, 0, 0, 1, 0, 0};
        int[] why = {1, 2, 2, 2, 2, 2, 3, 3, 3, 3, 2, 3};
        for (int i = 0; i < bad.length; i++) {
            due("bad row " + i + ", which", judge(x, 0, bad[i]), at[i]);
            due("bad row " + i + ", why", judge(x, 1, bad[i]), why[i]);
        }
        due("nothing is there", judge(x, 0), -1);
        due("nothing is there", judge(x, 2), 0);
        due("nothing is there", judge(x, 4), 1);
        due("nothing is there", judge(x, 5), 1);
        x.ask(0, -1);
        x.stone(0, true);
        due("stone", judge(x, 1, 0, 0, 1, -1, -1, 0, 1, 0, 0), 4);
        due("stone, of the rows ahead", judge(x, 2, 0, 0, 1, -1, -1, 0, 1, 0, 0), 1);
        due("it stands so", judge(x, 1, 0, 0, 0), 0);
        x.pledge(0, 0, 0);
        due("pledges do not count", judge(x, 1, 0, 0, 1), 0);
        due("but ahead tells by them", judge(x, 3, 0, 0, 1), 0);
        due("but ahead tells by them", judge(x, 3, 0, -1, 0), 1);
        none("what 6", () -> x.judged(6));
        none("what -1", () -> x.judged(-1));
        LastWord y = Tape.of(TUG.replace("kim 3", "kim 6").replace("lee 3", "lee 0"));
        due("its chance is 0", judge(y, 1, 1, -1, 0), 2);
        due("where nothing is told somebody comes", judge(y, 0, -1, -1, 0), 0);
        due("where nothing is told somebody comes", judge(y, 1, -1, -1, 0), 2);
        due("also ahead of what was done", judge(y, 1, -1, 0, 0), 2);
        due("also ahead of a thing that is none", judge(y, 1, -1, 7, 7), 2);
        due("how likely the rows ahead of it were, none", judge(y, 4, -1, -1, 0), 1);
        int[] untoldBehind = {1, -1, 0, -1, -1, 0, 1, -1, 0, -1, -1, 0};
        long[] ahead = {3, 2, 0, judge(x, 3, 1, -1, 0, -1, -1, 0, 1, -1, 0), 1, 2};
        for (int what = 0; what < 6; what++) {
            due("nobody untold behind nobody told, judged(" + what + ")", judge(x, what, untoldBehind), ahead[what]);
        }
        none("nobody untold is not among those that can be", () -> x.rowFares(3, false));
        LastWord z = Tape.of("springs 3 ;");
        none("no sort", () -> z.judged(0));
    }

    private static void rowFaring() {
        LastWord x = Tape.of(TUG);
        // kim brings it over, lee keeps it, lee undoes it
        judge(x, 0, 0, 0, 1, 1, -1, 0, 1, 0, 0);
        due("kim", x.rowFares(0, false), 7);
        due("lee", x.rowFares(1, false), 5);
        due("lee, for one spring alone", x.rowFares(2, false), 2);
        // had kim said THE SAME, it had stood at 0 all along: 0 instead of 7
        due("kim", x.rowFares(0, true), -7);
        due("lee, who said THE SAME", x.rowFares(1, true), 0);
        due("lee", x.rowFares(2, true), -2);
        none("spring 3", () -> x.rowFares(3, false));
        none("spring -1", () -> x.rowFares(-1, false));
        x.row(7, 0, 0);
        none("one that can't be", () -> x.rowFares(3, false));
        LastWord y = Tape.of(TUG + " spring 0 is nobody ;");
        judge(y, 0, -1, -1, 0);
        none("nobody came", () -> y.rowFares(0, false));
        // of stone: without lee's word kim behind her could not have done what she did
        LastWord z = Tape.of("thing a states 3 start 0 cost 1 ; sort kim worth 9 * ( a = 2 ) + 2 * ( a = 1 ) ;"
                + " chance kim 6 ; bar 0 ; life 3 ; springs 3 ;");
        z.stone(0, true);
        z.ask(1, 0);
        judge(z, 0, 0, -1, 0, 0, 0, 1, 0, -1, 0);
        due("kim", z.rowFares(1, false), 3);
        due("kim", z.rowFares(1, true), -3);
        due("kim, who said THE SAME", z.rowFares(0, false), 4);
        z.clear();
        z.row(0, 0, 1);
        z.row(0, 0, 1);
        due("the first one's loss: the second would have done it then", z.rowFares(0, true), -1);
    }

    private static void whens() {
        LastWord x = Tape.of(TUG);
        due("kim", x.when(0, 0), 1);
        due("kim, above", x.when(0, 1), 6);
        due("kim, below", x.when(0, 2), 1);
        none("sort 2", () -> x.when(2, 0));
        none("sort -1", () -> x.when(-1, 0));
        none("what 3", () -> x.when(0, 3));
        LastWord y = Tape.of("sort kim worth spring ; chance kim 6 ; sort lee worth 1 ; sort ann worth 9 - spring ;"
                + " spring 5 is lee ; spring 9 is ann ; spring 6 is nobody ; life 1 ; springs 16 ;");
        due("up to 6, where it may come", y.when(0, 0), 4);
        due("where it is told", y.when(1, 0), 5);
        none("none", () -> y.when(2, 0));
    }

    private static void marking() {
        LastWord x = Tape.of(TUG);
        due("nothing is on it", x.mark(0, true), false);
        due("mark(4, false)", x.mark(4, false), false);
        due("mark(-1, false)", x.mark(-1, false), false);
        due("mark(4, true)", x.mark(4, true), false);
        x.ask(0, 0);
        x.pledge(1, 0, 1);
        x.stone(0, true);
        x.row(0, 0, 1);
        due("mark(0, false)", x.mark(0, false), true);
        x.ask(0, -1);
        x.pledge(1, -1, 0);
        x.stone(0, false);
        x.clear();
        due("mark(3, false)", x.mark(3, false), true);
        Tape.village(x, TWO);
        Tape.feed(x, "life 2 ;");
        due("value", x.value(0, 0, 0, 0), 11);
        due("mark(0, true)", x.mark(0, true), true);
        due("the tape stays", x.count(10), 8);
        due("count(0)", x.count(0), 1);
        due("count(8)", x.count(8), 1);
        due("count(9)", x.count(9), 1);
        due("count(11)", x.count(11), 1);
        due("thing(0, 3)", x.thing(0, 3), 1);
        due("value", x.value(2, 0, 0, 0), 7);
        x.row(0, 0, 1);
        x.stone(0, false);
        due("mark(0, true), once more", x.mark(0, true), true);
        due("count(11)", x.count(11), 1);
        due("thing(0, 3)", x.thing(0, 3), 1);
        due("mark(3, true)", x.mark(3, true), true);
        due("value", x.value(2, 0, 0, 0), 9);
        due("count(8)", x.count(8), 0);
        due("count(11)", x.count(11), 0);
    }

    private static void counts() {
        LastWord x = Tape.of(STONES + " sort lee worth 1 ; spring 3 is lee ; spring 15 is nobody ; life 5 ; springs 6 ;");
        x.pledge(15, 0, 0);
        x.ask(14, 1);
        x.ask(2, 0);
        x.row(0, 0, 0);
        Tape.feed(x, "abc");
        long[] counts = {2, 2, 6, 5, 6, 1, 1, 2, 1, 2, 3, 1};
        for (int what = 0; what < counts.length; what++) {
            due("count(" + what + ")", x.count(what), counts[what]);
        }
        due("count(12)", x.count(12), -1);
        due("count(-1)", x.count(-1), -1);
    }

    private static final Runnable[] PROMISES = {PromiseTest::newObject, PromiseTest::feeding, PromiseTest::villages,
        PromiseTest::things, PromiseTest::worths, PromiseTest::mays, PromiseTest::choices, PromiseTest::values,
        PromiseTest::questions, PromiseTest::pledges, PromiseTest::stones, PromiseTest::odds, PromiseTest::stirs,
        PromiseTest::settling, PromiseTest::prices, PromiseTest::gains, PromiseTest::letting, PromiseTest::presents,
        PromiseTest::hoping, PromiseTest::vows, PromiseTest::binding, PromiseTest::ordering, PromiseTest::centuries,
        PromiseTest::faring, PromiseTest::telling, PromiseTest::bestRules, PromiseTest::bringing, PromiseTest::rowsFor,
        PromiseTest::bestRows, PromiseTest::rowing, PromiseTest::clearing, PromiseTest::judging,
        PromiseTest::rowFaring, PromiseTest::whens, PromiseTest::marking, PromiseTest::counts};

    public static void main(String[] args) {
        for (Runnable test : PROMISES) {
            promise++;
            test.run();
        }
        System.out.println(promise + " promises: " + (wrong == 0 ? "all answers are as due" : wrong + " are not as due"));
        if (wrong != 0) {
            System.exit(1);
        }
    }
}
