import java.util.NoSuchElementException;
import java.util.function.IntToLongFunction;
import java.util.function.LongSupplier;

/** What the tests of edges share: each answer that is not as due is told with the sentence that it belongs to. */
abstract class Edges {
    /** What stands for an answer where a call throws NoSuchElementException. */
    static final long THROWS = Long.MIN_VALUE;
    static final long NONE = LastWord.NONE;
    static final long FALSE = 0;
    static final int MOST = Integer.MAX_VALUE;
    static final int LEAST = Integer.MIN_VALUE;

    /** Two who want the one thing each her own way. */
    static final String TUG = "thing a states 2 start 0 cost 3 ; sort kim worth 5 * a ; chance kim 3 ;"
            + " sort lee worth 5 - 5 * a ; chance lee 3 ; life 2 ; springs 4 ;";

    private static final int FULL = 1000;

    private static String sentence = "";
    private static int wrong = 0;

    static void begin(String of, String says) {
        sentence = of + ", \"" + says + "\"";
    }

    static int wrong() {
        return wrong;
    }

    static void tell(String what) {
        wrong++;
        System.out.println(sentence + ": " + what);
    }

    static void due(String call, long got, long want) {
        if (got != want) {
            tell(call + " answered " + got + ", due is " + want);
        }
    }

    static void due(String call, boolean got, boolean want) {
        if (got != want) {
            tell(call + " answered " + got + ", due is " + want);
        }
    }

    static long answer(LongSupplier call) {
        try {
            return call.getAsLong();
        } catch (NoSuchElementException e) {
            return THROWS;
        }
    }

    static void none(String call, LongSupplier answer) {
        long got = answer(answer);
        if (got != THROWS) {
            tell(call + " answered " + got + ", but must throw NoSuchElementException");
        }
    }

    /** Of a fraction: what 0 is above, 1 below. */
    static void part(String call, IntToLongFunction answer, long above, long below) {
        due(call + " above", answer(() -> answer.applyAsLong(0)), above);
        due(call + " below", answer(() -> answer.applyAsLong(1)), below);
    }

    /** From least to most the argument is answered, beyond it on either side refused. */
    static void span(String call, int least, int most, long refusal, IntToLongFunction answer) {
        for (int i = least; i <= most; i = i < least + 30 || i >= most - 2 ? i + 1 : most - 2) {
            answered(call, i, refusal, answer);
        }
        int[] beyond = {least - 1, most + 1, LEAST, MOST};
        for (int i : beyond) {
            refused(call, i, refusal, answer);
        }
    }

    /** How it can stand is answered, what lies between and beyond is refused. */
    static void ways(String call, long refusal, IntToLongFunction answer, int... ways) {
        for (int stands = -2; stands <= 28; stands++) {
            boolean can = false;
            for (int way : ways) {
                can = can || way == stands;
            }
            if (can) {
                answered(call, stands, refusal, answer);
            } else {
                refused(call, stands, refusal, answer);
            }
        }
        refused(call, LEAST, refusal, answer);
        refused(call, MOST, refusal, answer);
    }

    static void answered(String call, int argument, long refusal, IntToLongFunction answer) {
        if (answer(() -> answer.applyAsLong(argument)) == refusal) {
            tell(call + " with " + argument + " is refused, but must be answered");
        }
    }

    static void refused(String call, int argument, long refusal, IntToLongFunction answer) {
        long got = answer(() -> answer.applyAsLong(argument));
        if (got != refusal) {
            tell(call + " with " + argument + " answered " + got + ", but must be refused");
        }
    }

    static long number(boolean yes) {
        return yes ? 1 : 0;
    }

    static void fine(String text) {
        int got = Tape.village(new LastWord(), text);
        if (got != 0) {
            tell("village() of: " + text + " answered " + got % 16 + " at " + got / 16 + ", due is 0");
        }
    }

    /** The text has a fault at the token behind the sign @; what stands behind that token does not matter. */
    static void fault(int kind, String marked) {
        int place = marked.indexOf('@');
        String text = marked.replace("@", "");
        faultAt(kind, text, place);
        if (place < text.length() && text.length() + 9 <= FULL) {
            faultAt(kind, text + " ~ 12345 )", place);
        }
    }

    private static void faultAt(int kind, String text, int place) {
        int got = Tape.village(new LastWord(), text);
        if (got != kind + 16 * place) {
            tell("village() of: " + text + " answered " + got % 16 + " at " + got / 16 + ", due is " + kind + " at "
                    + place);
        }
    }
}
