// What the tests of answers share: wrong inputs, short ways to fill an object, and to ask it.
abstract class Checks {
    static final int NONE = RootIsolator.NONE;
    static final int BAD = RootIsolator.BAD;
    static final int ZERO = RootIsolator.ZERO;
    static final int TIGHT = RootIsolator.TIGHT;
    static final int FULL = RootIsolator.FULL;
    static final int MOST = 1000000000;
    static final int NO_SIGN = -9;
    static final int LEAST_INT = Integer.MIN_VALUE;
    static final int GREATEST_INT = Integer.MAX_VALUE;

    // Beside the neighbours of what is right, numbers that a cut to fewer bits would make right.
    static final int[] WRONG_WHICH = {-1, 2, 3, -2, 256, 65536, LEAST_INT, GREATEST_INT};
    static final int[] WRONG_POWER = {-1, 9, 10, -8, 32, 256, 65536, LEAST_INT, GREATEST_INT};
    static final int[] WRONG_LEVEL = {-1, 31, 32, 62, 64, -30, 256, 65536, LEAST_INT, GREATEST_INT};
    static final int[] WRONG_NUMBER = {MOST + 1, -MOST - 1, GREATEST_INT, LEAST_INT};

    // A and B by turns. The remainders of A and its derivative, or of A and B, fall by two degrees or more
    // somewhere in the middle, which is rare: what is divided out of them then is not the usual factor.
    static final int[][] WITH_GAPS = {
        {-1, 0, 2, -1, 1, 0, 2, -2, 2}, {1, 0, 0, 0, 0, 0, 0, 0, 0},
        {1, 2, -1, -1, -1, 0, -2, -2, -2}, {2, -2, 2, 0, 0, 0, 0, 0, 0},
        {0, 0, -1, 0, 1, 0, 2, 2, 2}, {0, 0, -2, -1, 0, 0, 0, 0, 0},
        {-3, 2, 12, -11, 3, -3, -9, 18, -9}, {0, 8, 3, -5, 6, -12, 0, 0, 0},
        {10, 1, -4, 0, 0, 9, 9, 0, -3}, {-12, -9, 1, 0, 12, 3, 7, 0, 0},
        {-5, 5, 8, -8, 6, -6, 2, -2, 0}, {-4, 13, -9, 0, 0, 0, -10, 8, 2},
        {0, 2, -2, 0, -2, 2, -1, -1, 2}, {0, 1, -1, -1, -1, 2, 1, -1, 0},
        {0, 0, 0, 0, 0, -1, -1, 1, 1}, {2, -3, 1, 2, -3, 1, 0, 2, -2},
        {7, -19, 12, 9, -9, -10, 3, 15, -8}, {0, -9, 0, 13, -9, 5, 12, 0, -12},
        {0, -6, 6, 8, -1, -10, 12, -9, 0}, {0, -2, 7, -1, 7, -11, 2, -1, -1},
        {0, 0, 0, 2, -1, -1, 0, -2, 2}, {-2, 1, 1, 0, 0, -1, 3, -1, -1},
        {-1, 1, 7, -16, 0, 15, -10, 4, 0}, {-4, 4, 0, 2, -2, 0, 0, -11, 11}};

    private static String sentence = "";
    private static int askedBefore = 0;
    private static int asked = 0;
    private static int wrong = 0;

    static void due(String what, long got, long want) {
        asked++;
        if (got != want) {
            fault(what + " answered " + got + ", due is " + want);
        }
    }

    static void fault(String what) {
        wrong++;
        System.out.println(sentence + what);
    }

    /** What is asked from here on is asked because of these words of the document. */
    static void says(String words) {
        if (!sentence.isEmpty() && asked == askedBefore) {
            fault("nothing was asked");
        }
        sentence = "\"" + words + "\": ";
        askedBefore = asked;
    }

    static void end() {
        System.out.println(asked + " answers looked at, " + wrong + " faults");
        if (wrong != 0) {
            System.exit(1);
        }
    }

    static int[] row(int... numbers) {
        return numbers;
    }

    /** The product of polynomials, each a row of coefficients with the least power first. */
    static int[] product(int[]... factors) {
        int[] all = {1};
        for (int[] factor : factors) {
            int[] next = new int[all.length + factor.length - 1];
            for (int i = 0; i < all.length; i++) {
                for (int j = 0; j < factor.length; j++) {
                    next[i + j] = Math.addExact(next[i + j], Math.multiplyExact(all[i], factor[j]));
                }
            }
            all = next;
        }
        return all;
    }

    static void fill(RootIsolator x, int which, int... row) {
        for (int k = 0; k <= 8; k++) {
            x.set(which, k, k < row.length ? row[k] : 0);
        }
    }

    static RootIsolator of(int... a) {
        RootIsolator x = new RootIsolator();
        fill(x, 0, a);
        return x;
    }

    static RootIsolator pair(int[] a, int... b) {
        RootIsolator x = of(a);
        fill(x, 1, b);
        return x;
    }

    static void holds(String what, RootIsolator x, int which, int... row) {
        for (int k = 0; k <= 8; k++) {
            due(what + ": get(" + which + ", " + k + ")", x.get(which, k), k < row.length ? row[k] : 0);
        }
    }

    static void root(String what, RootIsolator x, int i, int level, long cell, int exact, int many) {
        due(what + ": level(" + i + ")", x.level(i), level);
        due(what + ": cell(" + i + ")", x.cell(i), cell);
        due(what + ": exact(" + i + ")", x.exact(i), exact);
        due(what + ": multiplicity(" + i + ")", x.multiplicity(i), many);
    }

    static void noRoot(String what, RootIsolator x, int i) {
        root(what, x, i, NONE, 0, NONE, NONE);
        due(what + ": signAt(" + i + ")", x.signAt(i), NO_SIGN);
    }

    /** All that can be read of an object: 63 calls. */
    static String state(RootIsolator x) {
        StringBuilder text = new StringBuilder();
        for (int which = 0; which <= 1; which++) {
            for (int power = 0; power <= 8; power++) {
                text.append(x.get(which, power)).append(' ');
            }
        }
        for (int i = 0; i <= 8; i++) {
            text.append("| ").append(x.level(i)).append(' ').append(x.cell(i)).append(' ').append(x.exact(i));
            text.append(' ').append(x.multiplicity(i)).append(' ').append(x.signAt(i)).append(' ');
        }
        return text.toString();
    }

    static void stays(String what, RootIsolator x, String before) {
        asked++;
        String now = state(x);
        if (!now.equals(before)) {
            fault(what + ": it was " + before + ", it is " + now);
        }
    }

    static void nothingIsolated(String what, RootIsolator x) {
        for (int i = -1; i <= 8; i++) {
            noRoot(what, x, i);
        }
    }
}
