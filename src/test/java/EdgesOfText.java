/** The edges of ==== 1.: the tape and its tokens, what a village may tell, E, the faults; and of promises 2 and 3. */
final class EdgesOfText extends Edges {
    private static final String A = "thing a states 2 start 0 cost 0 ; ";
    private static final String B = "thing b states 2 start 0 cost 0 ; ";
    private static final String C = "thing c states 2 start 0 cost 0 ; ";
    private static final String K = "sort k worth 1 ; ";
    private static final String FOUR_SORTS = K + "sort l worth 1 ; sort m worth 1 ; sort n worth 1 ; ";
    private static final String FOUR_BARS = "bar 0 ; bar 0 ; bar 0 ; bar 0 ; ";
    private static final String[] RESERVED = {"thing", "states", "start", "cost", "stone", "sort", "worth", "chance",
        "spring", "is", "nobody", "bar", "life", "springs", "not", "and", "or", "age"};

    /** Ahead of each of the sentences: a thing, a sort with its chance, a sort without. */
    private static final String AHEAD = A + "sort k worth a ; chance k 6 ; sort l worth a ; ";
    private static final String[] SENTENCES = {"thing b states 2 start 0 cost 0 ;",
        "thing b states 2 start 0 cost 0 stone ;", "sort m worth 1 ;", "chance l 0 ;", "spring 3 is k ;",
        "spring 3 is nobody ;", "bar a ;", "life 2 ;", "springs 2 ;"};

    private EdgesOfText() {
    }

    private static String blanks(int many) {
        return " ".repeat(many);
    }

    /** What E comes to where a stands at 1, b at 2 (both of 3 states), at an age of 5 in spring 15. */
    private static long worth(String e) {
        LastWord x = Tape.of("thing a states 3 start 0 cost 0 ; thing b states 3 start 0 cost 0 ; sort k worth " + e
                + " ; chance k 6 ;");
        return x.worth(0, 7, 5, 15);
    }

    private static void comes(String e, long want) {
        due(e, worth(e), want);
    }

    // ---- the tape

    @Edge(of = "==== 1.", says = "The TAPE has at most 1,000 signs")
    static void aThousandSignsAndNoMore() {
        LastWord x = new LastWord();
        due("992 signs", Tape.feed(x, blanks(992)), 992);
        due("7 more", Tape.feed(x, blanks(7)), 999);
        due("one more", Tape.feed(x, "!"), 1000);
        due("one too many", Tape.feed(x, "!"), 1000);
        due("many too many", Tape.feed(x, blanks(24)), 1000);
        due("count(10)", x.count(10), 1000);
        due("the thousandth sign is on it", x.village(), 1 + 16 * 999);
    }

    @Edge(of = "==== 1.", says = "10 and 32 .. 126")
    static void signsOfTheTape() {
        for (int sign = 0; sign < 256; sign++) {
            LastWord x = new LastWord();
            due("feed of sign " + sign, x.feed((long) sign << 56, 0, 0), sign == 10 || sign >= 32 && sign <= 126 ? 1 : 0);
        }
    }

    @Edge(of = "==== 1.", says = "what reads it takes it: it is empty then")
    static void readingEmptiesTheTape() {
        LastWord x = new LastWord();
        due("village()", Tape.village(x, "life 2 ;"), 0);
        due("signs behind it", x.count(10), 0);
        due("village() with a fault", Tape.village(x, "life 3 ; life"), 3 + 16 * 9);
        due("signs behind a fault", x.count(10), 0);
        due("it counts from the start again", Tape.feed(x, "life "), 5);
        due("and from the first place", Tape.village(x, "7"), 4 + 16 * 5);
        due("an empty one is read as a village of nothing", x.village(), 0);
        due("life", x.count(3), 4);
        Tape.village(x, "springs 1666 ; life");
        due("what was on it is not read again: a NUMBER", Tape.village(x, "springs 1"), 1 + 16 * 9);
        due("what was on it is not read again: a WORD", Tape.village(x, "spring"), 1 + 16 * 6);
        due("what was on it is not read again: a sign", Tape.village(x, "springs 16 "), 1 + 16 * 11);
    }

    // ---- the tokens

    @Edge(of = "==== 1.", says = "TOKENS, each as long as can be")
    static void tokensAreAsLongAsCanBe() {
        fine("springs3;");
        fault(1, "@lifes 2 ;");
        fault(1, "springs 3 @is nobody ;");
        fault(1, "@springsnobody ;");
        fault(2, "bar @nota ;");
        fault(1, "bar @12345 ;");
        due("16 is one NUMBER", Tape.of("springs 16 ;").count(2), 16);
    }

    @Edge(of = "==== 1.", says = "blanks (10, 32) between where one likes")
    static void blanksWhereOneLikes() {
        fine("thing a states 2 start 0 cost 0 stone;sort k worth(a+1)*2<3;chance k 6;");
        fine("\n \n thing\na\n\nstates  2\nstart 0 cost 0\n;\n \n");
        fine("bar(1)and(not(0));bar 1and 0or 1;");
        fault(1, "@li fe 2 ;");
        fault(1, "springs 1 @6 ;");
        fault(1, "spring @s 3 ;");
        fault(1, "thing a @b states 2 start 0 cost 0 ;");
    }

    @Edge(of = "==== 1.", says = "WORDS (letters a .. z, 8 at most)")
    static void wordsOfEightLetters() {
        fine("thing aaaaaaaa states 2 start 0 cost 0 ; thing zzzzzzzz states 2 start 0 cost 0 ; bar aaaaaaaa = zzzzzzzz ;");
        fine("sort abcdefgh worth 1 ; chance abcdefgh 6 ; spring 0 is abcdefgh ;");
        fault(1, "@abcdefghi ;");
        fault(1, "thing @abcdefghi states 2 start 0 cost 0 ;");
        fault(1, "sort @abcdefghi worth 1 ;");
        fault(1, K + "chance @abcdefghi 6 ;");
        fault(1, K + "spring 0 is @abcdefghi ;");
        fault(1, "bar @abcdefghi ;");
        fault(1, "bar 1 @abcdefghi ;");
        fault(1, "thing @`a");
        fault(1, "thing @{a");
        fault(1, "thing @A");
        fault(1, "thing a@Z");
    }

    @Edge(of = "==== 1.", says = "NUMBERS (1 to 4 digits")
    static void numbersOfFourDigits() {
        fine("life 6 ; springs 0016 ; bar 9999 ;");
        fine("thing a states 0002 start 0001 cost 0999 ; sort k worth 0000 ; chance k 0006 ; spring 0015 is k ;");
        fault(1, "life @00006 ;");
        fault(1, "springs @00006 ;");
        fault(1, "bar @00000 ;");
        fault(1, "thing a states @00002");
        fault(1, "thing a states 2 start @00000");
        fault(1, "thing a states 2 start 0 cost @00000");
        fault(1, K + "chance k @00006");
        fault(1, "spring @00003");
        fault(1, "life @/");
        fault(1, "life @:");
    }

    @Edge(of = "==== 1.", says = "a letter may stand right behind")
    static void letterRightBehindANumber() {
        fine("thing a states 2start 0cost 0stone ; spring 3is nobody ; bar 1and 0or 1 ;");
        due("the NUMBER ends ahead of the letter", Tape.of("life 2;springs3;").count(2), 3);
        fault(1, "life 2@springs 3 ;");
        fault(1, "life @12345a");
    }

    @Edge(of = "==== 1.", says = "All else (a longer WORD or NUMBER, too, at its first sign) is none")
    static void allElseIsNone() {
        String signs = "()<=+-*;";
        for (char sign = 33; sign <= 126; sign++) {
            boolean digit = sign >= '0' && sign <= '9';
            boolean letter = sign >= 'a' && sign <= 'z';
            if (sign != '@' && !digit && !letter && signs.indexOf(sign) < 0) {
                fault(1, "@" + sign);
                fault(1, "life 2 ;@" + sign);
                fault(1, "life @" + sign + "2 ;");
                fault(1, "bar 1 @" + sign + " 2 ;");
                fault(1, "thing ab@" + sign + "c states 2 start 0 cost 0 ;");
            }
        }
        due("@ too", Tape.village(new LastWord(), "life 2 ; @"), 1 + 16 * 9);
        fault(1, "  @abcdefghijklmnopqrstuvwxyz ;");
        fault(1, "bar 1 + @1234567890 ;");
    }

    // ---- what a village may tell

    @Edge(of = "==== 1.", says = "VILLAGE: any number of")
    static void anyNumberOfSentences() {
        fine("");
        fine("\n");
        fine(blanks(1000));
        fine(A + B + C + FOUR_SORTS + "chance k 0 ; chance l 1 ; chance m 2 ; chance n 3 ; life 6 ; springs 16 ; "
                + FOUR_BARS + "spring 0 is k ; spring 15 is nobody ;");
    }

    @Edge(of = "==== 1.", says = "thing NAME states N start N cost N ;   thing NAME states N start N cost N stone ;   "
            + "sort NAME worth E ;   chance NAME N ;   spring N is NAME ;   spring N is nobody ;   bar E ;   life N ;   "
            + "springs N ;")
    static void sentencesWholeAndCutShort() {
        for (String sentence : SENTENCES) {
            fine(AHEAD + sentence);
            String[] tokens = sentence.split(" ");
            String ahead = AHEAD;
            for (int i = 0; i < tokens.length; i++) {
                fault(1, ahead + "@) " + (i + 1 < tokens.length ? tokens[i + 1] : ""));
                fault(1, ahead + tokens[i] + " @" + tokens[i]);
                if (i > 0) {
                    fault(1, ahead + "@springs 3 ;");
                }
                ahead += tokens[i] + " ";
                if (i + 1 < tokens.length) {
                    fault(1, ahead + "@");
                }
            }
        }
    }

    @Edge(of = "==== 1.", says = "A NAME is another WORD than these, and than not, and, or, age")
    static void namesAreOtherWords() {
        for (String word : RESERVED) {
            fault(1, "thing @" + word + " states 2 start 0 cost 0 ;");
            fault(1, "sort @" + word + " worth 1 ;");
            fault(1, K + "chance @" + word + " 6 ;");
            if (!word.equals("nobody")) {
                fault(1, K + "spring 0 is @" + word + " ;");
            }
            if (!word.equals("not")) {
                fault(1, "bar @" + word + " ;");
            }
        }
        for (String name : ("things thin state starts costs ston sorts sor worths wort chances iss i nobod nobodys bars ba "
                + "lif lifes sprin springss no nots an ands o ors ag ages").split(" ")) {
            fine("thing " + name + " states 2 start 0 cost 0 ; bar " + name + " ;");
            fine("sort " + name + " worth 1 ; chance " + name + " 6 ; spring 0 is " + name + " ;");
        }
    }

    @Edge(of = "==== 1.", says = "no two things or sorts have the same")
    static void noTwoHaveTheSameName() {
        fault(3, A + "thing @a states 2 start 0 cost 0 ;");
        fault(3, A + "sort @a worth 1 ;");
        fault(3, K + "thing @k states 2 start 0 cost 0 ;");
        fault(3, K + "sort @k worth 1 ;");
        fault(3, A + B + C + "sort @c worth 1 ;");
        fault(3, FOUR_SORTS + "thing @n states 2 start 0 cost 0 ;");
        fine(A + "thing aa states 2 start 0 cost 0 ; sort aaa worth a ; sort aaaa worth aa ; chance aaaa 6 ;");
        fine(B + "thing bb states 2 start 0 cost 0 ; sort bbbbbbbb worth b ; sort bbbbbbb worth bb ; chance bbbbbbb 6 ;");
        fine("thing ab states 2 start 0 cost 0 ; thing ba states 2 start 0 cost 0 ; sort abc worth ba ; sort bca worth ab ;"
                + " sort bac worth 1 ; chance bac 6 ;");
    }

    @Edge(of = "==== 1.", says = "THINGS, 3 at most, numbered as told")
    static void threeThings() {
        LastWord x = Tape.of("thing c states 2 start 0 cost 7 ; thing b states 2 start 0 cost 8 ; thing a states 2 start 0"
                + " cost 9 ;");
        due("count(0)", x.count(0), 3);
        due("the first", x.thing(0, 2), 7);
        due("the last", x.thing(2, 2), 9);
        fault(5, A + B + C + "@thing d states 2 start 0 cost 0 ;");
        fault(5, A + B + C + "@thing a");
    }

    @Edge(of = "==== 1.", says = "states 2 or 3 (numbers from 0)")
    static void twoOrThreeStates() {
        due("2", Tape.of("thing a states 2 start 0 cost 0 ;").thing(0, 0), 2);
        due("3", Tape.of("thing a states 3 start 0 cost 0 ;").thing(0, 0), 3);
        fault(4, "thing a states @0 start 0 cost 0 ;");
        fault(4, "thing a states @1 start 0 cost 0 ;");
        fault(4, "thing a states @4 start 0 cost 0 ;");
        fault(4, "thing a states @9999 start 0 cost 0 ;");
    }

    @Edge(of = "==== 1.", says = "start one of them")
    static void startIsOneOfTheStates() {
        for (int states = 2; states <= 3; states++) {
            for (int start = 0; start < states; start++) {
                LastWord x = Tape.of("thing a states " + states + " start " + start + " cost 0 ;");
                due("start", x.thing(0, 1), start);
                due("count(5)", x.count(5), start);
            }
            fault(4, "thing a states " + states + " start @" + states + " cost 0 ;");
            fault(4, "thing a states " + states + " start @9999 cost 0 ;");
        }
    }

    @Edge(of = "==== 1.", says = "cost 0 to 999")
    static void costsUpTo999() {
        due("0", Tape.of("thing a states 2 start 0 cost 0 ;").thing(0, 2), 0);
        due("999", Tape.of("thing a states 2 start 0 cost 999 ;").thing(0, 2), 999);
        fault(4, "thing a states 2 start 0 cost @1000 ;");
        fault(4, "thing a states 2 start 0 cost @9999 ;");
    }

    @Edge(of = "==== 1.", says = "SORTS, 4 at most, numbered as told")
    static void fourSorts() {
        LastWord x = Tape.of("sort n worth 7 ; sort m worth 8 ; sort l worth 9 ; sort k worth 10 ; chance k 6 ;");
        due("count(1)", x.count(1), 4);
        due("the first", x.worth(0, 0, 0, 0), 7);
        due("the last", x.worth(3, 0, 0, 0), 10);
        fault(5, FOUR_SORTS + "@sort o worth 1 ;");
        fault(5, FOUR_SORTS + "@sort k");
    }

    @Edge(of = "==== 1.", says = "chance: of a sort told ahead")
    static void chanceOfASortToldAhead() {
        fault(2, "chance @k 6 ; sort k worth 1 ;");
        fault(2, K + "chance @l 6 ; sort l worth 1 ;");
        fault(2, A + "chance @a 6 ;");
        fine(K + "sort l worth 1 ; chance l 2 ; chance k 4 ;");
    }

    @Edge(of = "==== 1.", says = "0 to 6, once each (0 without)")
    static void chancesFromNoneToSix() {
        fine(K + "chance k 6 ;");
        fine(K + "sort l worth 1 ; chance l 0 ; chance k 6 ;");
        fault(4, K + "chance k @7 ;");
        fault(4, K + "chance k @9999 ;");
        fault(3, K + "chance k 6 ; chance @k 6 ;");
        fault(3, K + "chance k 0 ; chance @k 6 ;");
        LastWord x = Tape.of(K + "sort l worth 1 ; chance k 6 ;");
        x.row(1, -1, 0);
        due("a sort without a chance can't come", x.judged(1), 2);
    }

    @Edge(of = "==== 1.", says = "all together are 6, if there is a sort")
    static void chancesAreSixTogether() {
        fine("");
        fine(A);
        fault(6, K + "@");
        fault(6, K + "chance k 5 ;@");
        fault(6, K + "sort l worth 1 ; chance k 6 ; chance l 1 ;@");
        fault(6, FOUR_SORTS + "chance k 6 ; chance l 6 ; chance m 6 ; chance n 6 ;@");
        fine(FOUR_SORTS + "chance k 1 ; chance l 1 ; chance m 1 ; chance n 3 ;");
    }

    @Edge(of = "==== 1.", says = "spring: 0 to 15, once each, of a sort told ahead")
    static void springsThatAreTold() {
        fine("spring 0 is nobody ; spring 15 is nobody ;");
        fault(4, "spring @16 is nobody ;");
        fault(4, "spring @9999 is nobody ;");
        fault(3, "spring 15 is nobody ; spring @15 is nobody ;");
        fault(3, K + "spring 0 is nobody ; spring @0 is k ;");
        fault(3, K + "spring 7 is k ; spring @0007 is nobody ;");
        fault(2, "spring 0 is @k ; sort k worth 1 ;");
        fault(2, A + "spring 0 is @a ;");
        StringBuilder all = new StringBuilder();
        for (int spring = 0; spring < 16; spring++) {
            all.append("spring ").append(spring).append(" is nobody ; ");
        }
        due("all of them", Tape.of(all.toString()).count(7), 16);
        due("also behind the last SPRING", Tape.of("springs 1 ; spring 15 is nobody ;").count(7), 1);
    }

    @Edge(of = "==== 1.", says = "bar: 4 at most")
    static void fourBars() {
        due("count(6)", Tape.of(FOUR_BARS).count(6), 4);
        fault(5, FOUR_BARS + "@bar 0 ;");
        fault(5, FOUR_BARS + "@bar x");
    }

    @Edge(of = "==== 1.", says = "life 1 to 6 (4 without)")
    static void lifeFromOneToSix() {
        for (int life = 1; life <= 6; life++) {
            due("life " + life, Tape.of("life " + life + " ;").count(3), life);
        }
        fault(4, "life @0 ;");
        fault(4, "life @7 ;");
        fault(4, "life @9999 ;");
        LastWord x = Tape.of("life 6 ;");
        due("without", Tape.village(x, ""), 0);
        due("life without", x.count(3), 4);
    }

    @Edge(of = "==== 1.", says = "springs 1 to 16 (8 without), once each")
    static void springsFromOneToSixteen() {
        for (int springs = 1; springs <= 16; springs++) {
            due("springs " + springs, Tape.of("springs " + springs + " ;").count(2), springs);
        }
        fault(4, "springs @0 ;");
        fault(4, "springs @17 ;");
        fault(4, "springs @9999 ;");
        LastWord x = Tape.of("springs 16 ;");
        due("without", Tape.village(x, ""), 0);
        due("springs without", x.count(2), 8);
        fault(3, "springs 8 ; @springs 8 ;");
        fault(3, "life 4 ; @life 4 ;");
        fine("life 4 ; springs 8 ;");
    }

    // ---- E

    @Edge(of = "==== 1.", says = "E: TEST { and TEST or or TEST }, from the left")
    static void testsFromTheLeft() {
        comes("1 or 1 and 0", 0);
        comes("1 or 0 and 0", 0);
        comes("0 and 0 or 1", 1);
        comes("0 and 1 or 1 and 1", 1);
        fault(1, "bar @;");
        fault(1, "bar @and 1 ;");
        fault(1, "bar 1 and @;");
        fault(1, "bar 1 or @or 1 ;");
        fault(1, "bar @");
    }

    @Edge(of = "==== 1.", says = "TEST: SUM, or SUM < SUM, or SUM = SUM")
    static void oneComparisonInATest() {
        comes("2 < 3", 1);
        comes("3 < 3", 0);
        comes("4 < 3", 0);
        comes("3 = 3", 1);
        comes("3 = 4", 0);
        comes("1 + 1 < 3", 1);
        comes("( 1 < 2 ) < 2", 1);
        fault(1, "bar 1 < 2 @< 3 ;");
        fault(1, "bar 1 = 2 @= 3 ;");
        fault(1, "bar 1 < 2 @= 3 ;");
        fault(1, "bar 1 = 2 @< 3 ;");
        fault(1, "bar 1 < @< 3 ;");
        fault(1, "bar 1 < @;");
    }

    @Edge(of = "==== 1.", says = "SUM: PRODUCT { + or - PRODUCT }; PRODUCT: PART { * PART }")
    static void sumsAndProducts() {
        comes("10 - 3 - 2", 5);
        comes("2 + 3 * 4 - 1", 13);
        comes("0 - 1", -1);
        comes("0 * 9999", 0);
        fault(1, "bar @- 1 ;");
        fault(1, "bar @+ 1 ;");
        fault(1, "bar @* 1 ;");
        fault(1, "bar 1 + @;");
        fault(1, "bar 1 - @- 1 ;");
        fault(1, "bar 1 * @;");
        fault(1, "bar 1 @2 ;");
        fault(1, "bar 1 @( 2 ) ;");
        fault(1, "bar ( @) ;");
        fault(1, "bar ( 1 @;");
        fault(1, "bar 1 @) ;");
        fault(1, "bar 1 @not 1 ;");
    }

    @Edge(of = "==== 1.", says = "the NAME of a thing told ahead (its state)")
    static void nameOfAThingToldAhead() {
        comes("a", 1);
        comes("b", 2);
        fault(2, "bar @a ; " + A);
        fault(2, A + "bar a + @b ; " + B);
        fault(2, K + "bar @k ;");
        fault(2, "sort k worth @k ;");
        fault(2, A + "bar @aa ;");
    }

    @Edge(of = "==== 1.", says = "in worth also age and spring")
    static void ageAndSpringInWorthAlone() {
        comes("age", 5);
        comes("spring", 15);
        comes("100 * age + spring", 515);
        fault(1, "bar @age ;");
        fault(1, "bar @spring ;");
        fault(1, "bar 1 + not @age ;");
        fault(1, "bar ( 1 and @spring ) ;");
        fault(1, "sort k worth @springs ;");
        fault(1, "sort k worth age ; chance k 6 ; bar @age ;");
    }

    @Edge(of = "==== 1.", says = "no PART lies within 5 of not and ( )")
    static void partsWithinFourAtMost() {
        comes("not not not not 7", 1);
        comes("( ( ( ( 7 ) ) ) )", 7);
        comes("not ( not ( 7 ) )", 1);
        comes("( ( ( ( 1 ) ) ) ) + ( ( ( ( 2 ) ) ) ) * not not not not 3", 3);
        comes("not 1 + not 1 + not 1 + not 1 + not 1 + not 0", 1);
        fault(5, "bar not not not not not @7 ;");
        fault(5, "bar ( ( ( ( ( @7 ) ) ) ) ) ;");
        fault(5, "bar not ( not ( not @7 ) ) ;");
        fault(5, A + "bar ( ( ( ( not @a ) ) ) ) ;");
        fault(5, "sort k worth ( ( ( ( ( @age");
        fault(5, "sort k worth ( ( ( ( ( @spring");
        fault(5, "bar ( ( ( ( 1 ) ) ) ) + ( ( ( ( ( @1");
        String four = "9 - 9 < 2 + 3 * ( ";
        comes("0 or " + four + "0 or " + four + "0 or " + four + "0 or " + four + "0 or 9 - 9 < 2 + 3 * 1 ) ) ) )", 1);
    }

    @Edge(of = "==== 1.", says = "Of not, and, or, < and = comes 1 or 0; what is not 0 is so")
    static void oneOrNought() {
        comes("not 0", 1);
        comes("not 1", 0);
        comes("not 9999", 0);
        comes("not ( 0 - 1 )", 0);
        comes("not 0 + 5", 6);
        comes("5 and 7", 1);
        comes("5 and 0", 0);
        comes("( 0 - 1 ) and ( 0 - 2 )", 1);
        comes("0 or 7", 1);
        comes("7 or 0", 1);
        comes("0 or 0 - 7", 1);
        comes("0 or 0", 0);
        comes("( 5 = 5 ) + ( 1 < 2 ) + ( 2 < 1 )", 2);
    }

    @Edge(of = "==== 1.", says = "ints wrap")
    static void intsWrap() {
        comes("4096 * 4096 * 256", 0);
        comes("4096 * 4096 * 256 + 7", 7);
        comes("4096 * 4096 * 128 < 0", 1);
        comes("4096 * 4096 * 128 - 1 < 0", 0);
        comes("4096 * 4096 * 127 + 4096 * 4096 < 0", 1);
        comes("0 - 4096 * 4096 * 128 < 0", 1);
        comes("not ( 4096 * 4096 * 256 )", 1);
    }

    // ---- the faults

    @Edge(of = "==== 1.", says = "kind + 16 * the place (from 0) of a token, the end being one at the text's length")
    static void placesOfFaults() {
        fault(1, "@;");
        fault(1, " \n @;");
        fault(1, "thing@");
        fault(1, "thing @");
        fault(1, "thing \n @");
        fault(6, K + "\n  @");
        fault(1, blanks(999) + "@;");
        fault(1, blanks(995) + "thing@");
        fault(1, blanks(994) + "life 2@");
        fault(4, blanks(994) + "life @7");
        fault(6, K + blanks(1000 - K.length()) + "@");
    }

    @Edge(of = "==== 1.", says = "of the first token from the left that is wrong the least")
    static void firstFaultAndLeastKind() {
        fault(4, "life @7 springs 0 ; thing thing ;");
        fault(3, K + "chance k 6 ; chance @k 7 ;");
        fault(1, A + B + C + "sort @thing");
        fault(1, FOUR_SORTS + "thing @sort");
        fault(1, FOUR_BARS + "life @bar");
        fault(1, "life 2 ; thing @life");
        fault(1, "springs 2 ; sort @springs");
        fault(1, "bar ( ( ( ( ( @age");
        fault(1, "bar ( ( ( ( ( @)");
        fault(1, "bar not not not not not @12345");
        fault(1, "bar ( ( ( ( (@");
        fault(2, "bar ( ( ( ( ( @x");
        fault(2, "sort k worth not not not not not @k");
        fault(1, "sort k worth 1@");
        fault(1, "sort k worth 1 ; chance k 5@");
    }

    @Edge(of = "==== 1.", says = "1 it is none, or can't stand there")
    static void faultOfATokenThatCantStand() {
        for (String token : "( ) < = + - * ; 0 a states start cost stone worth is nobody not and or age".split(" ")) {
            fault(1, "@" + token);
            fault(1, A + "@" + token);
            fault(1, A + "life @" + (token.equals("0") ? "~" : token));
        }
        for (String token : "( ) < = + - * ; 0".split(" ")) {
            fault(1, "thing @" + token);
            fault(1, "sort @" + token);
            fault(1, "chance @" + token);
            fault(1, "spring 0 is @" + token);
        }
        fault(1, "spring @nobody");
        fault(1, "thing a states 2 start 0 cost 0 @stones ;");
        fault(1, "thing a @stone states");
    }

    @Edge(of = "==== 1.", says = "2 a NAME that is of no sort told (behind chance, is), of no thing told (in E)")
    static void faultOfANameThatIsNone() {
        fault(2, "chance @x");
        fault(2, K + A + "chance @a");
        fault(2, "spring 0 is @x");
        fault(2, K + A + "spring 0 is @a");
        fault(2, "bar @x");
        fault(2, K + A + "bar @k");
        fault(2, "sort k worth 1 + @x");
        fault(2, "thing zzzzzzzz states 2 start 0 cost 0 ; bar @zzzzzzz");
    }

    @Edge(of = "==== 1.", says = "3 a NAME told already (behind thing, sort), a sort's chance, a spring, life, springs a"
            + " second time (at the NAME, the NUMBER, the word)")
    static void faultOfASecondTime() {
        fault(3, A + "thing @a");
        fault(3, A + "sort @a");
        fault(3, K + "thing @k");
        fault(3, K + "sort @k");
        fault(3, K + "chance k 0 ; chance @k");
        fault(3, "spring 0 is nobody ; spring @0");
        fault(3, "life 4 ; @life");
        fault(3, "springs 8 ; @springs");
        fault(3, "life 4 ; springs 8 ; @life");
    }

    @Edge(of = "==== 1.", says = "4 a NUMBER that is not as told")
    static void faultOfANumber() {
        fault(4, "thing a states @4");
        fault(4, "thing a states 2 start @2");
        fault(4, "thing a states 2 start 0 cost @1000");
        fault(4, K + "chance k @7");
        fault(4, "spring @16");
        fault(4, "life @0");
        fault(4, "springs @17");
    }

    @Edge(of = "==== 1.", says = "5 one too many: the word thing of a fourth, sort of a fifth, bar of a fifth; not, or a"
            + " PART, within 5 others")
    static void faultOfOneTooMany() {
        fault(5, A + B + C + "@thing");
        fault(5, FOUR_SORTS + "@sort");
        fault(5, FOUR_BARS + "@bar");
        fault(5, "bar not not not not not @not");
        fault(5, "bar ( ( ( ( ( @not");
        fault(5, "bar ( ( ( ( ( @(");
        fault(5, "bar ( ( ( ( ( @1");
        fault(5, "bar ( not ( not ( @1");
    }

    @Edge(of = "==== 1.", says = "6 at the end: the chances are not 6 together")
    static void faultOfChances() {
        fault(6, K + "chance k 5 ;@");
        fault(6, K + "chance k 5 ; \n@");
        fault(6, "sort k worth 1;chance k 6;sort l worth 1;chance l 6;@");
    }

    @Edge(of = "==== 1.", says = "Without a FAULT it is the VILLAGE from then on; all else that was told is as at first,"
            + " but MARKS")
    static void villageBeginsAnew() {
        LastWord x = Tape.of(A + "thing b states 2 start 0 cost 0 stone ; " + K + "chance k 6 ; bar 0 ; spring 0 is k ;");
        x.ask(3, 1);
        x.pledge(15, 0, 1);
        x.stone(0, true);
        x.stone(1, false);
        x.row(0, -1, 0);
        x.mark(3, false);
        due("village()", Tape.village(x, A + B.replace("0 ;", "0 stone ;")), 0);
        int[] counts = {2, 0, 8, 4, 4, 0, 0, 0, 0, 0, 0, 0};
        for (int what = 0; what < counts.length; what++) {
            due("count(" + what + ")", x.count(what), counts[what]);
        }
        due("of wood as told", x.thing(0, 3), 0);
        due("of stone as told", x.thing(1, 3), 1);
        due("MARKS stay", x.mark(3, true), true);
        due("what is on them", x.count(8) * 100 + x.count(9) * 10 + x.count(11), 111);
        due("what is on them", x.thing(0, 3) * 10 + x.thing(1, 3), 10);
    }

    // ---- promises 2 and 3

    @Edge(of = "Promise 2", says = "Up to 24 signs come behind the TAPE: the bytes of a, b, c, of each the highest first")
    static void upTo24Signs() {
        LastWord x = new LastWord();
        due("none", x.feed(0, 0, 0), 0);
        due("24", x.feed(0x737072696E677320L, 0x39203B206C696665L, 0x2035203B20202020L), 24);
        due("24 more", x.feed(0x2020202020202020L, 0x2020202020202020L, 0x2020202020202020L), 48);
        due("in their order", x.village(), 0);
        due("springs 9", x.count(2), 9);
        due("life 5", x.count(3), 5);
    }

    @Edge(of = "Promise 2", says = "others than 10 and 32 .. 126, and what is beyond 1,000, are left out: how many there are")
    static void othersAreLeftOut() {
        LastWord x = new LastWord();
        due("others alone", x.feed(-1, Tape.bytes(0, 9, 11, 13, 31, 127, 128, 255), Long.MIN_VALUE), 0);
        due("others between", x.feed(Tape.bytes('l', 0, 'i', 255, 'f', 127, 'e', 31), Tape.bytes(9, 10, 11, '7', 13, 128,
                200, 0), 0), 6);
        due("what is on it: life, 10, 7", x.village(), 4 + 16 * 5);
        Tape.feed(x, blanks(990));
        due("beyond", x.feed(Tape.bytes(0, ' ', ' ', ' ', ' ', ' ', ' ', ' '), Tape.bytes(0, ' ', 0, '!', 0, ' ', 0, '!'),
                -1), 1000);
        due("a full one", x.feed(Tape.bytes('a', 'b', 'c', 'd', 'e', 'f', 'g', 'h'), 0, 0), 1000);
        due("the ten that fit are on it", x.village(), 1 + 16 * 998);
    }

    @Edge(of = "Promise 3", says = "The TAPE is read as a VILLAGE: 0, or its FAULT (all stays then)")
    static void allStaysAtAFault() {
        for (String bad : new String[] {"life 7 ;", "springs 2 ; life 2 ; ; ", "sort z worth 1 ;", A + K + "!", "x"}) {
            LastWord x = Tape.of("thing a states 3 start 1 cost 7 stone ; thing b states 2 start 0 cost 9 ; bar a = 2 ;"
                    + " sort k worth a ; chance k 6 ; spring 2 is nobody ; spring 3 is k ; life 3 ; springs 5 ;");
            x.ask(1, 1);
            x.pledge(4, 1, 1);
            x.pledge(3, 0, 0);
            x.stone(0, false);
            x.row(0, 0, 0);
            x.mark(1, false);
            due("has a fault: " + bad, Tape.village(x, bad) != 0, true);
            int[] counts = {2, 1, 5, 3, 6, 1, 1, 2, 2, 1, 0, 1};
            for (int what = 0; what < counts.length; what++) {
                due("count(" + what + ") behind: " + bad, x.count(what), counts[what]);
            }
            due("of wood still", x.thing(0, 3), 0);
            due("the cost", x.thing(1, 2), 9);
            due("the bar", x.may(0, 1, 0, 2), 0);
            due("the QUESTION", x.may(1, 1, 0, 0), 0);
            due("the PLEDGE", x.chooses(4, 0, 1, true), 4);
            due("the worth", x.worth(0, 2, 0, 0), 2);
            due("the ROW", x.judged(2), 0);
            due("the MARK", x.mark(1, true), true);
        }
    }
}
