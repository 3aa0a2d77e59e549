/** Feeds a text to a village and reads it, for the tests. */
final class Tape {
    private Tape() {
    }

    static int feed(LastWord x, String text) {
        int signs = x.count(10);
        for (int from = 0; from < text.length(); from += 24) {
            signs = x.feed(packed(text, from), packed(text, from + 8), packed(text, from + 16));
        }
        return signs;
    }

    static int village(LastWord x, String text) {
        feed(x, text);
        return x.village();
    }

    static LastWord of(String text) {
        LastWord x = new LastWord();
        int fault = village(x, text);
        if (fault != 0) {
            throw new IllegalStateException("fault " + fault % 16 + " at " + fault / 16 + " of: " + text);
        }
        return x;
    }

    /** A long of eight bytes, the highest first. */
    static long bytes(int... bytes) {
        long all = 0;
        for (int b : bytes) {
            all = all << 8 | b & 255;
        }
        return all;
    }

    private static long packed(String text, int from) {
        long bytes = 0;
        for (int i = from; i < from + 8; i++) {
            bytes = bytes << 8 | (i < text.length() ? text.charAt(i) : 0);
        }
        return bytes;
    }
}
