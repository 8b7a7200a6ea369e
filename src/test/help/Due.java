/** Holds answers against those that are due, and tells each one that isn't so. */
final class Due {
    static final int NONE = -1, BAD = -2, STATE = -3, FULL = -4, NOT_SO = -5;
    static final int NOTHING = -11, BEYOND = -13, BELOW = -14;
    static final long NO = Long.MIN_VALUE;
    static final int LEAST_INT = Integer.MIN_VALUE, GREATEST_INT = Integer.MAX_VALUE;

    private int asked = 0;
    private int wrong = 0;

    void is(String what, long got, long want) {
        asked++;
        if (got != want) {
            wrong++;
            System.out.println(what + ": answered " + got + ", due is " + want);
        }
    }

    /** Both parts of a fraction that was told; what is due need not be in lowest terms. */
    void fraction(String what, long above, long below, long dueAbove, long dueBelow) {
        long shared = commonDivisor(Math.abs(dueAbove), dueBelow);
        is(what + " (above the line)", above, dueAbove / shared);
        is(what + " (below the line)", below, dueBelow / shared);
    }

    private static long commonDivisor(long a, long b) {
        return b == 0 ? a : commonDivisor(b, a % b);
    }

    /** Tells how it went; the exit code is 1 if one answer was not as due. */
    void end() {
        System.out.println(asked + " answers looked at, " + wrong + " not as due");
        if (wrong != 0) {
            System.exit(1);
        }
    }

    // ---- what many tests begin with

    static final int[] OUT_X = {1, -1, -1, 1};
    static final int[] OUT_Y = {1, 1, -1, -1};

    /** One heavy PART in the middle, and a CHART that allows much everywhere. */
    static CranePads firm() {
        CranePads x = new CranePads();
        x.part(900, 0, 0, false);
        x.entry(0, 60, 9999);
        return x;
    }

    /** How many bytes THE TAPE has then. */
    static int feed(CranePads x, String text) {
        int size = x.count(1);
        for (int i = 0; i < text.length(); i++) {
            size = x.feed(text.charAt(i));
        }
        return size;
    }

    static int plan(CranePads x, String text) {
        feed(x, text);
        return x.plan();
    }

    static String times(int n, String text) {
        return text.repeat(n);
    }
}
