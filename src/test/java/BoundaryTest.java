// The boundary cases that the sections "Promise 1" to "Promise 19" name, one part for each sentence:
// too small, too large, empty, full, a wrap-around, a refused call and what stays or is forgotten then.
public final class BoundaryTest extends Checks {
    private static final long ONE = 1L << 30;
    private static final int[] NO_INDEX = {-1, 3, 4, 7, 8, 9, 256, LEAST_INT, GREATEST_INT};
    private static final int[] FARTHEST = {-MOST, -MOST, -MOST, -MOST, -MOST, -MOST, -MOST, -MOST, 1};

    // (x^2 - 2) (x - 1), B being below 0 at the first root and above it at the two others
    private static final int[] THREE = {2, -2, -1, 1};

    private static RootIsolator isolated() {
        RootIsolator x = pair(THREE, 1, 2);
        x.isolate(3);
        return x;
    }

    private static void threeRoots(String what, RootIsolator x) {
        root(what, x, 0, 3, -12, 0, 1);
        root(what, x, 1, 3, 7, 1, 1);
        root(what, x, 2, 3, 11, 0, 1);
    }

    // ---- Promise 1

    private static void newObject() {
        says("Both polynomials are ZERO; nothing is isolated.");
        RootIsolator x = new RootIsolator();
        for (int which = 0; which <= 1; which++) {
            due("degree", x.degree(which), ZERO);
            due("roots", x.roots(which), ZERO);
            due("between", x.between(which, 0, 0, 1, 0), ZERO);
            due("sign", x.sign(which, 1, 0), 0);
        }
        nothingIsolated("at first", x);
        due("isolate", x.isolate(0), ZERO);
        due("common", x.common(), ZERO);
        due("divisor", x.divisor(), ZERO);
        due("derive", x.derive(), ZERO);
        due("times", x.times(0), ZERO);
        due("shift", x.shift(0), ZERO);
        due("swap", x.swap(), ZERO);
        RootIsolator used = isolated();
        RootIsolator y = new RootIsolator();
        nothingIsolated("beside a used one", y);
        holds("beside a used one", y, 0);
        threeRoots("the used one", used);
    }

    // ---- Promises 2 to 4

    private static void setOfA() {
        says("A coefficient: 0; if it is A's nothing is isolated then.");
        for (int power = 0; power <= 8; power++) {
            RootIsolator x = isolated();
            int kept = x.get(0, power);
            due("B's", x.set(1, power, MOST), 0);
            threeRoots("B's leaves what is isolated", x);
            due("A's, though it was the same", x.set(0, power, kept), 0);
            nothingIsolated("A's, though it was the same", x);
        }
        RootIsolator x = of(-1, 1);
        due("one root", x.isolate(0), 1);
        x.set(0, 1, 0);
        due("a constant is left", x.isolate(0), 0);
        x.set(0, 0, 0);
        due("nothing is left", x.isolate(0), ZERO);
    }

    private static void setRefused() {
        says("BAD: no such polynomial, power (0 .. 8) or number.");
        RootIsolator x = isolated();
        String before = state(x);
        for (int which : WRONG_WHICH) {
            due("set(" + which + ", 0, 1)", x.set(which, 0, 1), BAD);
        }
        for (int power : WRONG_POWER) {
            due("set(0, " + power + ", 1)", x.set(0, power, 1), BAD);
            due("set(1, " + power + ", 1)", x.set(1, power, 1), BAD);
        }
        for (int c : WRONG_NUMBER) {
            due("set(0, 0, " + c + ")", x.set(0, 0, c), BAD);
            due("set(0, 8, " + c + ")", x.set(0, 8, c), BAD);
            due("set(1, 0, " + c + ")", x.set(1, 0, c), BAD);
            due("set(1, 8, " + c + ")", x.set(1, 8, c), BAD);
        }
        stays("all stays", x, before);
        due("the greatest that is not refused", x.set(0, 8, MOST), 0);
        due("the least that is not refused", x.set(1, 8, -MOST), 0);
        due("the greatest that is not refused", x.get(0, 8), MOST);
        due("the least that is not refused", x.get(1, 8), -MOST);
    }

    private static void getNone() {
        says("A coefficient; 0 if there is none such.");
        RootIsolator x = pair(row(1, 2, 3, 4, 5, 6, 7, 8, 9), -1, -2, -3, -4, -5, -6, -7, -8, -9);
        holds("A", x, 0, 1, 2, 3, 4, 5, 6, 7, 8, 9);
        holds("B", x, 1, -1, -2, -3, -4, -5, -6, -7, -8, -9);
        for (int which : WRONG_WHICH) {
            due("get(" + which + ", 0)", x.get(which, 0), 0);
            due("get(" + which + ", 8)", x.get(which, 8), 0);
        }
        for (int power : WRONG_POWER) {
            due("get(0, " + power + ")", x.get(0, power), 0);
            due("get(1, " + power + ")", x.get(1, power), 0);
        }
    }

    private static void degreeRefused() {
        says("THE DEGREE. ZERO; BAD: no such polynomial.");
        RootIsolator x = pair(row(0, 0, 0, 0, 0, 0, 0, 0, -1), 1);
        due("the greatest", x.degree(0), 8);
        due("the least", x.degree(1), 0);
        x.set(1, 0, 0);
        due("ZERO", x.degree(1), ZERO);
        for (int which : WRONG_WHICH) {
            due("degree(" + which + ")", x.degree(which), BAD);
        }
    }

    // ---- Promise 5

    private static void signs() {
        says("The sign, -1, 0 or 1, of a polynomial at a POINT (ZERO is 0 everywhere).");
        RootIsolator x = pair(row(-1, 0, 1), 0, 0, 0, 1);
        due("a square that would wrap around to 0", x.sign(0, 1L << 33, 0), 1);
        due("a square that would wrap around below 0", x.sign(0, 3037000500L, 0), 1);
        due("the square of the least long", x.sign(0, Long.MIN_VALUE, 0), 1);
        due("the third power of the least long", x.sign(1, Long.MIN_VALUE, 0), -1);
        due("the third power of the greatest long", x.sign(1, Long.MAX_VALUE, 30), 1);
        due("a third power that would wrap around to 0", x.sign(1, 1L << 22, 0), 1);
        due("a third power that would wrap around to 0", x.sign(1, -(1L << 22), 0), -1);
        due("the third power of 2^-30", x.sign(1, 1, 30), 1);
        due("the third power of -2^-30", x.sign(1, -1, 30), -1);
        fill(x, 0, 0, 0, 0, 0, 0, 0, 0, MOST, -MOST);
        due("under 1 by 2^-30", x.sign(0, ONE - 1, 30), 1);
        due("at 1", x.sign(0, ONE, 30), 0);
        due("over 1 by 2^-30", x.sign(0, ONE + 1, 30), -1);
        due("the eighth power of the least long", x.sign(0, Long.MIN_VALUE, 0), -1);
        due("2^-210 times 10^9", x.sign(0, 1, 30), 1);
        fill(x, 0, -1, 0, 0, 0, 0, 0, 0, 0, 0);
        due("a constant", x.sign(0, Long.MIN_VALUE, 30), -1);
        fill(x, 0, MOST, 1);
        due("at -1000000000", x.sign(0, -MOST * ONE, 30), 0);
        due("under -1000000000 by 2^-30", x.sign(0, -MOST * ONE - 1, 30), -1);
        due("over -1000000000 by 2^-30", x.sign(0, -MOST * ONE + 1, 30), 1);
        fill(x, 0);
        for (int e = 0; e <= 30; e += 10) {
            due("ZERO at 0", x.sign(0, 0, e), 0);
            due("ZERO at the least long", x.sign(0, Long.MIN_VALUE, e), 0);
            due("ZERO at the greatest long", x.sign(0, Long.MAX_VALUE, e), 0);
        }
    }

    private static void signRefused() {
        says("BAD: no such polynomial, or e is not 0 .. 30.");
        RootIsolator x = isolated();
        String before = state(x);
        for (int which : WRONG_WHICH) {
            due("sign(" + which + ", 0, 0)", x.sign(which, 0, 0), BAD);
        }
        for (int e : WRONG_LEVEL) {
            due("sign(0, 0, " + e + ")", x.sign(0, 0, e), BAD);
            due("sign(1, 0, " + e + ")", x.sign(1, 0, e), BAD);
        }
        stays("all stays", x, before);
        due("level 0", x.sign(0, 1, 0), 0);
        due("level 30", x.sign(0, ONE, 30), 0);
        fill(x, 1);
        due("ZERO does not hide it", x.sign(1, 0, 31), BAD);
        due("ZERO does not hide it", x.sign(1, 0, -1), BAD);
    }

    // ---- Promise 6

    private static void partsOfTheLine() {
        says("How many ROOTS are above the POINT n / 2^e and not above the POINT m / 2^f");
        // x (x - 1)^3 (x - 2)^2
        RootIsolator x = of(product(row(0, 1), row(-1, 1), row(-1, 1), row(-1, 1), row(-2, 1), row(-2, 1)));
        due("a root at each end", x.between(0, 0, 0, 2, 0), 2);
        due("a root at each end", x.between(0, 1, 0, 2, 0), 1);
        due("a root at the lower end alone", x.between(0, 0, 0, ONE - 1, 30), 0);
        due("a root at the upper end alone", x.between(0, ONE - 1, 30, 1, 0), 1);
        due("nothing but a root's own cell", x.between(0, 2 * ONE - 1, 30, 2 * ONE, 30), 1);
        due("nothing but the cell above it", x.between(0, 2 * ONE, 30, 2 * ONE + 1, 30), 0);
        due("0 at the upper end", x.between(0, -1, 30, 0, 30), 1);
        due("0 at the lower end", x.between(0, 0, 30, 1, 30), 0);
        due("all", x.between(0, -1, 0, 2, 0), 3);
        due("the whole line", x.between(0, Long.MIN_VALUE, 0, Long.MAX_VALUE, 0), 3);
        due("the whole line at level 30", x.between(0, Long.MIN_VALUE, 30, Long.MAX_VALUE, 30), 3);
        due("levels that differ", x.between(0, Long.MIN_VALUE, 30, Long.MAX_VALUE, 0), 3);
        due("levels that differ", x.between(0, Long.MIN_VALUE, 0, Long.MAX_VALUE, 30), 3);
        due("far below", x.between(0, Long.MIN_VALUE, 0, Long.MIN_VALUE, 30), 0);
        due("far above", x.between(0, Long.MAX_VALUE, 30, Long.MAX_VALUE, 0), 0);
        fill(x, 1, FARTHEST);
        due("the greatest root", x.between(1, (MOST + 1) * ONE - 1, 30, MOST + 1, 0), 1);
        due("above the greatest root", x.between(1, MOST + 1, 0, Long.MAX_VALUE, 0), 0);
        due("a constant has none", of(5).between(0, Long.MIN_VALUE, 0, Long.MAX_VALUE, 0), 0);
    }

    private static void partsTurned() {
        says("(0, if the second is not above the first: asked last)");
        RootIsolator x = of(product(row(0, 1), row(-1, 1), row(-2, 1)));
        due("twice the same point", x.between(0, 1, 0, 1, 0), 0);
        due("twice the same point, written in two ways", x.between(0, 1, 0, ONE, 30), 0);
        due("twice the same point, written in two ways", x.between(0, 4, 2, 2, 1), 0);
        due("turned by 2^-30 about a root", x.between(0, 1, 0, ONE - 1, 30), 0);
        due("turned by 2^-30 about a root", x.between(0, ONE + 1, 30, 1, 0), 0);
        due("turned about all", x.between(0, 3, 0, -1, 0), 0);
        due("turned, the second's n is the greater", x.between(0, 1, 0, 3, 2), 0);
        due("not turned, the second's n is the smaller", x.between(0, 3, 2, 1, 0), 1);
        due("turned about the line", x.between(0, Long.MAX_VALUE, 0, Long.MIN_VALUE, 0), 0);
        due("turned, n 2^30 would wrap around to 0", x.between(0, 1L << 34, 0, 1, 30), 0);
        due("turned, m 2^30 would wrap around to 0", x.between(0, -1, 30, -(1L << 34), 0), 0);
        due("not turned, m 2^30 would wrap around to 0", x.between(0, 1, 30, 1L << 34, 0), 2);
        due("not turned, n 2^30 would wrap around to 0", x.between(0, -(1L << 34), 0, -1, 30), 0);
        due("not turned, n 2^30 would wrap around", x.between(0, -(1L << 33), 0, 0, 30), 1);
        due("the least longs, turned", x.between(0, Long.MIN_VALUE, 30, Long.MIN_VALUE, 0), 0);
        due("the greatest longs, turned", x.between(0, Long.MAX_VALUE, 0, Long.MAX_VALUE, 30), 0);
        due("ZERO is asked before", x.between(1, 1, 0, 0, 0), ZERO);
        due("ZERO is asked before", x.between(1, 1, 0, 1, 0), ZERO);
        due("no polynomial is asked before", x.between(2, 1, 0, 0, 0), BAD);
        due("e is asked before", x.between(0, 1, 31, 0, 0), BAD);
        due("f is asked before", x.between(0, 1, 0, 0, -1), BAD);
    }

    /** Every two of many points, near and written in several ways, on both sides of 0. */
    private static void allPartsOfTheLine() {
        says("How many ROOTS are above the POINT n / 2^e and not above the POINT m / 2^f "
            + "(0, if the second is not above the first: asked last).");
        int[] quarters = {-4, -3, -2, -1, 1, 2, 3, 4};
        int[] all = product(row(1, 1), row(3, 4), row(1, 2), row(1, 4), row(-1, 4), row(-1, 2), row(-3, 4), row(-1, 1));
        for (int e = 0; e <= 3; e++) {
            for (int f = 0; f <= 3; f++) {
                for (int n = -10; n <= 10; n++) {
                    RootIsolator x = of(all);
                    for (int m = -10; m <= 10; m++) {
                        int many = 0;
                        for (int quarter : quarters) {
                            many += n << 2 < quarter << e && quarter << f <= m << 2 ? 1 : 0;
                        }
                        due("between(0, " + n + ", " + e + ", " + m + ", " + f + ")", x.between(0, n, e, m, f), many);
                    }
                }
            }
        }
    }

    private static void betweenRefused() {
        says("BAD: no such polynomial, e or f; ZERO.");
        RootIsolator x = isolated();
        String before = state(x);
        for (int which : WRONG_WHICH) {
            due("between(" + which + ")", x.between(which, 0, 0, 1, 0), BAD);
        }
        for (int e : WRONG_LEVEL) {
            due("e is " + e, x.between(0, 0, e, 1, 0), BAD);
            due("f is " + e, x.between(1, 0, 0, 1, e), BAD);
            due("both are " + e, x.between(0, 0, e, 1, e), BAD);
        }
        stays("all stays", x, before);
        due("levels 0 and 30", x.between(0, 0, 0, ONE, 30), 1);
        due("levels 30 and 0", x.between(0, 0, 30, 1, 0), 1);
        fill(x, 1);
        due("ZERO", x.between(1, 0, 0, 1, 0), ZERO);
        due("BAD before ZERO, by e", x.between(1, 0, 31, 1, 0), BAD);
        due("BAD before ZERO, by f", x.between(1, 0, 0, 1, -1), BAD);
    }

    // ---- Promise 7

    private static void allRoots() {
        says("How many ROOTS there are.");
        int[] all = {1};
        RootIsolator x = of(all);
        due("a constant", x.roots(0), 0);
        for (int many = 1; many <= 8; many++) {
            all = product(all, row(-many, 1));
            fill(x, 0, all);
            due("1 .. " + many, x.roots(0), many);
        }
        for (int power = 1; power <= 8; power++) {
            fill(x, 1);
            x.set(1, power, -MOST);
            due("x^" + power, x.roots(1), 1);
            x.set(1, 0, MOST);
            due("x^" + power + " - 1", x.roots(1), power % 2 == 0 ? 2 : 1);
        }
        fill(x, 0, FARTHEST);
        due("the greatest numbers", x.roots(0), 2);
        fill(x, 0, -2, 89440, -999939200, 0, 0, 0, 0, 0, 1);
        due("two nearer than 2^-60", x.roots(0), 4);
        fill(x, 0, 2, 89440, 999939200, 0, 0, 0, 0, 0, 1);
        due("none, though nearly two", x.roots(0), 0);
    }

    private static void rootsRefused() {
        says("BAD, ZERO.");
        RootIsolator x = isolated();
        String before = state(x);
        for (int which : WRONG_WHICH) {
            due("roots(" + which + ")", x.roots(which), BAD);
        }
        stays("all stays", x, before);
        fill(x, 1);
        due("B is ZERO", x.roots(1), ZERO);
        due("A is not", x.roots(0), 3);
        x.swap();
        due("A is ZERO", x.roots(0), ZERO);
        due("B is not", x.roots(1), 3);
    }

    // ---- Promise 8

    private static void isolates() {
        says("A's roots are isolated from LEVEL e on: each has its PLACE: how many roots.");
        RootIsolator x = of(THREE);
        due("the least level", x.isolate(0), 3);
        root("the least level", x, 0, 0, -2, 0, 1);
        root("the least level", x, 1, 0, 0, 1, 1);
        root("the least level", x, 2, 0, 1, 0, 1);
        due("the greatest level", x.isolate(30), 3);
        root("the greatest level", x, 0, 30, -1518500250L, 0, 1);
        root("the greatest level", x, 1, 30, ONE - 1, 1, 1);
        root("the greatest level", x, 2, 30, 1518500249L, 0, 1);
        due("once more, from a lower level", x.isolate(3), 3);
        threeRoots("once more, from a lower level", x);
        fill(x, 0, 1, 0, 1);
        due("no root", x.isolate(0), 0);
        nothingIsolated("no root", x);
        fill(x, 0, -MOST);
        due("a constant", x.isolate(30), 0);
        nothingIsolated("a constant", x);
        fill(x, 0, 40320, -109584, 118124, -67284, 22449, -4536, 546, -36, 1);
        due("eight", x.isolate(0), 8);
        root("the eighth", x, 7, 0, 7, 1, 1);
        noRoot("the ninth", x, 8);
    }

    private static void isolateRefused() {
        says("BAD: e is not 0 .. 30");
        RootIsolator x = isolated();
        for (int e : WRONG_LEVEL) {
            due("isolate(" + e + ")", x.isolate(e), BAD);
        }
        says("with BAD all stays");
        String before = state(x);
        for (int e : WRONG_LEVEL) {
            due("isolate(" + e + ")", x.isolate(e), BAD);
        }
        stays("isolate", x, before);
        threeRoots("isolate", x);
        RootIsolator y = of(THREE);
        due("nothing is isolated before", y.isolate(31), BAD);
        nothingIsolated("nothing is isolated after", y);
    }

    private static void isolateZero() {
        says("ZERO; TIGHT: some root is (with ZERO and TIGHT nothing is isolated then");
        RootIsolator x = isolated();
        fill(x, 0);
        due("A is ZERO", x.isolate(0), ZERO);
        nothingIsolated("A is ZERO", x);
        due("A is ZERO", x.isolate(30), ZERO);
        due("BAD before ZERO", x.isolate(31), BAD);
        due("BAD before ZERO", x.isolate(-1), BAD);
        RootIsolator y = of(THREE);
        due("B's being ZERO does not matter", y.isolate(0), 3);
    }

    private static void isolateTight() {
        says("TIGHT: some root is (with ZERO and TIGHT nothing is isolated then");
        RootIsolator x = isolated();
        // x^3 - (6317 x - 1)^2: the last of three roots is far from the two others
        fill(x, 0, -1, 12634, -39904489, 1);
        due("two of three", x.isolate(0), TIGHT);
        nothingIsolated("two of three", x);
        due("two of three, from 30", x.isolate(30), TIGHT);
        nothingIsolated("two of three, from 30", x);
        due("BAD before TIGHT", x.isolate(31), BAD);
        RootIsolator y = of(-1, -12634, -39904489, -1);
        due("the last two of three", y.isolate(7), TIGHT);
        nothingIsolated("the last two of three", y);
        fill(y, 0, THREE);
        due("another A after it", y.isolate(3), 3);
        threeRoots("another A after it", y);
        // (x^2 - 2) (470832 x - 665857) (x - 1): the last two of four
        fill(y, 0, product(row(-2, 0, 1), row(-665857, 470832), row(-1, 1)));
        due("the last two of four", y.isolate(0), TIGHT);
        nothingIsolated("the last two of four", y);
    }

    // ---- Promises 9 to 13

    private static void noSuchRoot() {
        says("NONE: nothing is isolated, or there is none such.");
        RootIsolator x = isolated();
        for (int i : NO_INDEX) {
            due("level(" + i + ")", x.level(i), NONE);
        }
        due("level(0)", x.level(0), 3);
        due("level(2)", x.level(2), 3);
        says("0 if there is none such.");
        for (int i : NO_INDEX) {
            due("cell(" + i + ")", x.cell(i), 0);
        }
        due("cell(0)", x.cell(0), -12);
        due("cell(2)", x.cell(2), 11);
        says("Whether it is the upper end of its CELL (1 or 0); NONE, as before.");
        for (int i : NO_INDEX) {
            due("exact(" + i + ")", x.exact(i), NONE);
        }
        due("exact(0)", x.exact(0), 0);
        due("exact(1)", x.exact(1), 1);
        due("exact(2)", x.exact(2), 0);
        says("Its MULTIPLICITY; NONE, as before.");
        for (int i : NO_INDEX) {
            due("multiplicity(" + i + ")", x.multiplicity(i), NONE);
        }
        due("multiplicity(0)", x.multiplicity(0), 1);
        due("multiplicity(2)", x.multiplicity(2), 1);
        says("The sign of B, as it is now, at that root: -1, 0, 1; NONE as -9.");
        for (int i : NO_INDEX) {
            due("signAt(" + i + ")", x.signAt(i), NO_SIGN);
        }
        due("signAt(0)", x.signAt(0), -1);
        due("signAt(2)", x.signAt(2), 1);
        x.set(0, 0, 2);
        says("NONE: nothing is isolated, or there is none such.");
        nothingIsolated("after set", x);
    }

    private static void asItWasIsolated() {
        says("Of root i, from 0 on, as it was isolated: its LEVEL.");
        RootIsolator x = of(-2, 0, 1);
        for (int e = 0; e <= 30; e++) {
            due("isolate(" + e + ")", x.isolate(e), 2);
            due("level(0)", x.level(0), e);
            due("level(1)", x.level(1), e);
        }
        RootIsolator y = isolated();
        String before = state(y);
        y.sign(0, 1, 0);
        y.between(0, -5, 0, 5, 0);
        y.between(1, -5, 0, 5, 0);
        y.roots(0);
        y.roots(1);
        y.common();
        y.divisor();
        y.degree(0);
        stays("calls that only ask", y, before);
        threeRoots("calls that only ask", y);
        fill(x, 0, product(row(-3, 8), row(-4, 8), row(-5, 1)));
        due("levels that differ", x.isolate(1), 3);
        due("level(0)", x.level(0), 3);
        due("level(1)", x.level(1), 3);
        due("level(2)", x.level(2), 1);
    }

    private static void theCells() {
        says("Its CELL m at that LEVEL");
        RootIsolator x = of(product(row(-1, 8), row(-2, 8), row(5, 1), row(-7, 3)));
        due("four", x.isolate(1), 4);
        due("-5 at level 1", x.cell(0), -11);
        due("1 / 8 at level 3", x.cell(1), 0);
        due("2 / 8 at level 3", x.cell(2), 1);
        due("7 / 3 at level 1", x.cell(3), 4);
        fill(x, 0, FARTHEST);
        due("two", x.isolate(30), 2);
        due("more than an int", x.cell(1), (MOST + 1) * ONE - 1);
        fill(x, 0, 0, 1);
        due("one", x.isolate(0), 1);
        due("0, whose cell is that below it", x.cell(0), -1);
        fill(x, 0, -1, 2);
        due("one", x.isolate(0), 1);
        due("a half, whose cell is 0 as if there were none", x.cell(0), 0);
        due("a half", x.level(0), 0);
    }

    private static void upperEnds() {
        says("Whether it is the upper end of its CELL (1 or 0)");
        RootIsolator x = of(-1, 8);
        for (int e = 0; e <= 30; e++) {
            due("isolate(" + e + ")", x.isolate(e), 1);
            due("an eighth at level " + e, x.exact(0), e < 3 ? 0 : 1);
        }
        // 1 ends the cell below that of the root of 2
        fill(x, 0, THREE);
        due("three", x.isolate(0), 3);
        due("the lower end is a root, the upper end is not", x.exact(2), 0);
        due("the upper end", x.exact(1), 1);
        fill(x, 0, FARTHEST);
        due("two", x.isolate(30), 2);
        due("under the upper end by 10^-63", x.exact(1), 0);
        fill(x, 0, product(row(-1, 2), row(-1, 2)));
        due("one", x.isolate(1), 1);
        due("one that counts twice", x.exact(0), 1);
        // the upper end of the first root's cell at level 5 is below the second root
        fill(x, 0, product(row(-1, 32), row(-1, 32, 0, 0, 0, -1)));
        due("four", x.isolate(5), 4);
        due("the fraction of two that are near", x.exact(1), 1);
        due("the other", x.exact(2), 0);
    }

    private static void multiplicities() {
        says("Its MULTIPLICITY");
        RootIsolator x = new RootIsolator();
        int[] all = {-1};
        for (int many = 1; many <= 8; many++) {
            all = product(all, row(-1, 3));
            fill(x, 0, all);
            due("one", x.isolate(30), 1);
            due("a third", x.multiplicity(0), many);
        }
        fill(x, 0, product(row(-1, 2), row(1, -2), row(1, 0, 1), row(1, 0, 1), row(1, 0, 1)));
        due("one", x.isolate(0), 1);
        due("what is not real does not count", x.multiplicity(0), 2);
        fill(x, 0, product(row(-2, 0, 1), row(-2, 0, 1), row(-2, 0, 1), row(-1, 1), row(-1, 1)));
        due("three", x.isolate(0), 3);
        due("below", x.multiplicity(0), 3);
        due("at the lower end of the next one's cell", x.multiplicity(1), 2);
        due("above", x.multiplicity(2), 3);
        // u^2 (u - x^5), u = 32 x - 1: the first of two roots at 2^-30 from each other counts twice
        fill(x, 0, product(row(-1, 32), row(-1, 32), row(-1, 32, 0, 0, 0, -1)));
        due("four", x.isolate(0), 4);
        due("twice", x.multiplicity(1), 2);
        due("the near one once", x.multiplicity(2), 1);
        // u (u - x^3)^2, u = 4 x - 1: the second of two near roots counts twice
        fill(x, 0, product(row(-1, 4), row(-1, 4, 0, -1), row(-1, 4, 0, -1)));
        due("four", x.isolate(2), 4);
        due("once", x.multiplicity(1), 1);
        due("the near one twice", x.multiplicity(2), 2);
    }

    private static void signOfB(String what, RootIsolator x, int first, int second, int third) {
        due(what + ": signAt(0)", x.signAt(0), first);
        due(what + ": signAt(1)", x.signAt(1), second);
        due(what + ": signAt(2)", x.signAt(2), third);
    }

    private static void signsOfB() {
        says("The sign of B, as it is now, at that root: -1, 0, 1");
        RootIsolator x = isolated();
        signOfB("1 + 2 x", x, -1, 1, 1);
        due("set", x.set(1, 0, -2), 0);
        signOfB("2 x - 2", x, -1, 0, 1);
        fill(x, 1, -7, 5);
        signOfB("5 x - 7", x, -1, -1, 1);
        fill(x, 1, THREE);
        signOfB("A itself", x, 0, 0, 0);
        due("derive", x.derive(), 2);
        signOfB("A's derivative", x, 1, -1, 1);
        fill(x, 1, -MOST);
        signOfB("a constant", x, -1, -1, -1);
        fill(x, 1, MOST);
        signOfB("a constant", x, 1, 1, 1);
        fill(x, 1);
        signOfB("ZERO", x, 0, 0, 0);
        // 665857 / 470832 is above the root of 2 by 2^-40
        fill(x, 1, -665857, 470832);
        signOfB("nearer than 2^-30, below", x, -1, -1, -1);
        fill(x, 1, -941664, 665857);
        signOfB("nearer than 2^-30, above", x, -1, -1, 1);
        fill(x, 1, -2, 0, 1);
        signOfB("0 where it is no fraction", x, 0, -1, 0);
        fill(x, 1, 0, 0, 0, 0, 0, 0, 0, 0, -MOST);
        signOfB("the greatest degree", x, -1, -1, -1);
        threeRoots("B's changes leave it", x);
        // Eight roots between -1 and 1, none of them a fraction, in an A whose leading number is not 1.
        fill(x, 0, 3900001, 0, -124800000, 0, 624000000, 0, -998400000, 0, 499200000);
        due("eight", x.isolate(0), 8);
        for (int side = -1; side <= 1; side++) {
            fill(x, 1, side * 7);
            for (int i = 0; i < 8; i++) {
                due("7 times " + side + ": signAt(" + i + ")", x.signAt(i), side);
            }
        }
        // (x^2 - 2) (x^2 - 7): two roots of A in cells side by side, B's own between them
        fill(x, 0, product(row(-2, 0, 1), row(-7, 0, 1)));
        fill(x, 1, -2, 1);
        due("four", x.isolate(0), 4);
        due("below B's root", x.signAt(2), -1);
        due("above B's root", x.signAt(3), 1);
        fill(x, 1, 2, 1);
        due("below B's root", x.signAt(0), -1);
        due("above B's root", x.signAt(1), 1);
    }

    private static void signsOfBFarOut() {
        says("The sign of B, as it is now, at that root: -1, 0, 1");
        // The greatest roots of the two are under 1000000001 by 10^-63 and by 10^-54.
        int[] nextFarthest = {-MOST, -MOST, -MOST, -MOST, -MOST, -MOST, -MOST, 1};
        RootIsolator x = pair(FARTHEST, nextFarthest);
        due("two", x.isolate(30), 2);
        due("above B's root by 10^-54", x.signAt(1), 1);
        due("below", x.signAt(0), -1);
        x.swap();
        due("one", x.isolate(30), 1);
        due("below B's root by 10^-54", x.signAt(0), -1);
        // u (u - x^7), u = 2^14 x - 1, and its two near factors
        fill(x, 0, 1, -(1 << 15), 1 << 28, 0, 0, 0, 0, 1, -(1 << 14));
        fill(x, 1, -1, 1 << 14);
        due("four", x.isolate(0), 4);
        due("at B's root", x.signAt(1), 0);
        due("above B's root by 2^-112", x.signAt(2), 1);
        fill(x, 1, -1, 1 << 14, 0, 0, 0, 0, 0, -1);
        due("below B's root by 2^-112", x.signAt(1), -1);
        due("at B's root", x.signAt(2), 0);
        // A counts its root twice, B has it once, or just beside it
        fill(x, 0, product(row(-2, 0, 1), row(-2, 0, 1)));
        due("two", x.isolate(0), 2);
        fill(x, 1, product(row(-2, 0, 1), row(-1, 1)));
        due("shared", x.signAt(0), 0);
        due("shared", x.signAt(1), 0);
        fill(x, 1, -665857, 470832);
        due("beside it", x.signAt(1), -1);
    }

    // ---- Promises 14 and 15

    private static void inCommon() {
        says("How many ROOTS A and B have in common, as they are now.");
        RootIsolator x = pair(THREE, THREE);
        due("the same", x.common(), 3);
        due("set of A", x.set(0, 0, 1), 0);
        due("after set of A", x.common(), 0);
        due("set back", x.set(0, 0, 2), 0);
        due("after set back", x.common(), 3);
        due("derive", x.derive(), 2);
        due("after derive", x.common(), 0);
        fill(x, 1, product(row(-1, 1), row(-1, 1), row(-9, 1)));
        due("one, which B counts twice", x.common(), 1);
        due("times", x.times(9), 4);
        due("after times", x.common(), 2);
        due("shift", x.shift(8), 4);
        due("after shift, which brings 9 to 1", x.common(), 1);
        x.swap();
        due("after swap", x.common(), 1);
        fill(x, 0, product(row(1, 0, 1), row(1, 0, 1), row(-1, 1), row(-1, 1)));
        fill(x, 1, product(row(1, 0, 1), row(1, 0, 1), row(-1, 1), row(-1, 1)));
        due("each once, what is not real not at all", x.common(), 1);
        fill(x, 0, 5);
        due("a constant", x.common(), 0);
        x.swap();
        due("a constant", x.common(), 0);
        fill(x, 0, 5);
        due("two constants, the same", x.common(), 0);
        fill(x, 0, -2, 0, 1);
        fill(x, 1, -665857, 470832);
        due("near is not in common", x.common(), 0);
        fill(x, 0, FARTHEST);
        fill(x, 1, -MOST, -MOST, -MOST, -MOST, -MOST, -MOST, -MOST, 1);
        due("the nearest that there are", x.common(), 0);
        fill(x, 0, 0, -5040, 13068, -13132, 6769, -1960, 322, -28, 1);
        fill(x, 1, 0, 5040, -13068, 13132, -6769, 1960, -322, 28, -1);
        due("eight, with the sign turned", x.common(), 8);
    }

    private static void inCommonZero() {
        says("ZERO: one of them is.");
        RootIsolator x = of(THREE);
        due("B is", x.common(), ZERO);
        x.swap();
        due("A is", x.common(), ZERO);
        fill(x, 1);
        due("both are", x.common(), ZERO);
        fill(x, 1, 7);
        due("A is, B is a constant", x.common(), ZERO);
        x.swap();
        due("B is, A is a constant", x.common(), ZERO);
    }

    private static void divisors() {
        says("The DEGREE of the greatest common divisor of A and B");
        int[] square = {1, 0, 1};
        RootIsolator x = pair(product(square, square, row(-1, 1), row(-1, 1)), product(square, row(-1, 1), row(-2, 1)));
        due("what is not real counts too", x.divisor(), 3);
        fill(x, 1, product(square, square, row(-1, 1), row(-1, 1)));
        due("all of it, as often as it stands", x.divisor(), 6);
        fill(x, 0, 6, 0, 6);
        fill(x, 1, 4, 0, 4);
        due("a number in common is no degree", x.divisor(), 2);
        fill(x, 0, 6);
        due("a constant and another", x.divisor(), 0);
        x.swap();
        due("another and a constant", x.divisor(), 0);
        fill(x, 0, 4);
        due("two constants", x.divisor(), 0);
        fill(x, 0, 0, 0, 0, 0, 0, 0, 0, 0, MOST);
        fill(x, 1, 0, 0, 0, 0, 0, 0, 0, 0, -MOST);
        due("the greatest", x.divisor(), 8);
        fill(x, 1, 0, 0, 0, 0, 0, 0, 0, 1, 1);
        due("seven", x.divisor(), 7);
        fill(x, 0, FARTHEST);
        fill(x, 1, -MOST, -MOST, -MOST, -MOST, -MOST, -MOST, -MOST, 1);
        due("none", x.divisor(), 0);
        // B is 3 x^5 - 3, A is B times 2 x^3 + x + 1 and (x - 1) (5 x + 7)
        fill(x, 0, -10, -1, 5, -6, 0, 3, 3, 0, 6);
        fill(x, 1, -3, 0, 0, 0, 0, 3);
        due("remainders that lack powers", x.divisor(), 1);
        due("remainders that lack powers", x.common(), 1);
    }

    private static void withGaps() {
        int[] roots = {2, 2, 3, 4, 2, 3, 4, 3, 4, 3, 4, 3};
        int[] common = {0, 0, 1, 1, 0, 1, 2, 1, 1, 2, 1, 1};
        int[] divisor = {0, 0, 2, 1, 0, 1, 2, 1, 1, 2, 1, 1};
        for (int k = 0; k < roots.length; k++) {
            RootIsolator x = pair(WITH_GAPS[2 * k], WITH_GAPS[2 * k + 1]);
            says("How many ROOTS there are.");
            due("remainders with gaps, " + k, x.roots(0), roots[k]);
            due("remainders with gaps, " + k, x.isolate(0), roots[k]);
            says("How many ROOTS A and B have in common, as they are now.");
            due("remainders with gaps, " + k, x.common(), common[k]);
            says("The DEGREE of the greatest common divisor of A and B");
            due("remainders with gaps, " + k, x.divisor(), divisor[k]);
        }
    }

    private static void divisorsOfZero() {
        says("(of one that is ZERO and another: the other's)");
        RootIsolator x = of(THREE);
        due("B is ZERO", x.divisor(), 3);
        x.swap();
        due("A is ZERO", x.divisor(), 3);
        fill(x, 1, 0, 0, 0, 0, 0, 0, 0, 0, 1);
        due("A is ZERO, B has the greatest degree", x.divisor(), 8);
        fill(x, 1, -MOST);
        due("A is ZERO, B is a constant", x.divisor(), 0);
        x.swap();
        due("B is ZERO, A is a constant", x.divisor(), 0);
        says("ZERO: both are.");
        fill(x, 0);
        due("both", x.divisor(), ZERO);
    }

    // ---- Promise 16

    private static void derives() {
        says("B becomes the derivative of A (coefficient k + 1 of A times k + 1): B's DEGREE, or ZERO.");
        RootIsolator x = pair(row(1, 1, 1, 1, 1, 1, 1, 1, 1), 9, 9, 9, 9, 9, 9, 9, 9, 9);
        due("the greatest degree", x.derive(), 7);
        holds("B's last is 0 then", x, 1, 1, 2, 3, 4, 5, 6, 7, 8);
        holds("A stays", x, 0, 1, 1, 1, 1, 1, 1, 1, 1, 1);
        fill(x, 0, 5, 5);
        due("a constant comes", x.derive(), 0);
        holds("a constant comes", x, 1, 5);
        fill(x, 0, 5);
        due("of a constant", x.derive(), ZERO);
        holds("of a constant", x, 1);
        holds("A stays", x, 0, 5);
        fill(x, 0);
        fill(x, 1, 1, 2, 3);
        due("of ZERO", x.derive(), ZERO);
        holds("of ZERO", x, 1);
        RootIsolator y = isolated();
        y.derive();
        threeRoots("what is isolated stays", y);
        fill(y, 0, 7);
        due("a constant is isolated", y.isolate(0), 0);
        due("of a constant", y.derive(), ZERO);
    }

    private static void deriveFull() {
        says("FULL, and nothing is done: a number would be beyond 1000000000.");
        for (int k = 2; k <= 8; k++) {
            for (int side = -1; side <= 1; side += 2) {
                int most = MOST / k;
                RootIsolator x = pair(row(1, 1), 9, 9, 9, 9, 9, 9, 9, 9, 9);
                x.set(0, k, side * (most + 1));
                x.isolate(0);
                String before = state(x);
                due("beyond by x^" + k, x.derive(), FULL);
                stays("beyond by x^" + k, x, before);
                x.set(0, k, side * most);
                due("not beyond by x^" + k, x.derive(), k - 1);
                due("not beyond by x^" + k, x.get(1, k - 1), side * most * k);
                due("the others too", x.get(1, 0), 1);
            }
        }
        RootIsolator x = of(MOST, -MOST);
        due("a constant does not count, and x counts once", x.derive(), 0);
        due("a constant does not count, and x counts once", x.get(1, 0), -MOST);
        // 8 times 2^29 would wrap around to 0
        fill(x, 0, 0, 1, 0, 0, 0, 0, 0, 0, 1 << 29);
        due("a number that would wrap around to 0", x.derive(), FULL);
        // 5 times 858993460 would wrap around to 4
        fill(x, 0, 0, 0, 0, 0, 0, 858993460);
        due("a number that would wrap around to 4", x.derive(), FULL);
        holds("nothing is done", x, 1, -MOST);
    }

    // ---- Promise 17

    private static void timesOf() {
        says("A becomes A times x less a whole number r: A's DEGREE.");
        RootIsolator x = of(1);
        for (int many = 1; many <= 8; many++) {
            due("times(-1)", x.times(-1), many);
        }
        holds("up to the greatest degree", x, 0, 1, 8, 28, 56, 70, 56, 28, 8, 1);
        fill(x, 0, 3, 0, 0, 0, 0, 0, 0, MOST);
        due("r is 0", x.times(0), 8);
        holds("r is 0", x, 0, 0, 3, 0, 0, 0, 0, 0, 0, MOST);
        fill(x, 1, 5, 6);
        fill(x, 0, 2);
        due("a constant", x.times(3), 1);
        holds("a constant", x, 0, -6, 2);
        holds("B stays", x, 1, 5, 6);
        says("ZERO");
        fill(x, 0);
        for (int r : new int[] {0, 1, MOST + 1, LEAST_INT, GREATEST_INT}) {
            due("times(" + r + ")", x.times(r), ZERO);
        }
        holds("A stays", x, 0);
        holds("B stays", x, 1, 5, 6);
    }

    private static void timesFull() {
        says("FULL, and nothing is done: its DEGREE is 8, or a number would be beyond 1000000000");
        RootIsolator x = pair(row(0, 0, 0, 0, 0, 0, 0, 0, 1), 1, 2);
        x.isolate(3);
        String before = state(x);
        for (int r : new int[] {0, 1, -1, LEAST_INT, GREATEST_INT}) {
            due("its degree is 8: times(" + r + ")", x.times(r), FULL);
        }
        stays("its degree is 8", x, before);
        beyondByTimes(row(1), MOST + 1);
        beyondByTimes(row(1), -MOST - 1);
        beyondByTimes(row(1), LEAST_INT);
        beyondByTimes(row(1), GREATEST_INT);
        beyondByTimes(row(2), 500000001);
        beyondByTimes(row(-2, 1), -500000001);
        beyondByTimes(row(MOST, 1), -1);
        beyondByTimes(row(-MOST, 1), 1);
        beyondByTimes(row(1, 1), -MOST);
        beyondByTimes(row(-1, 1), MOST);
        beyondByTimes(row(0, 0, 0, 0, 0, 0, MOST, 1), -1);
        // What an int would make of it is 0.
        beyondByTimes(row(65536), 65536);
        beyondByTimes(row(0, 2), LEAST_INT);
        beyondByTimes(row(4, 4), 1 << 30);
        fits(row(1), MOST, -MOST, 1);
        fits(row(1), -MOST, MOST, 1);
        fits(row(2), -500000000, MOST, 2);
        fits(row(MOST), 1, -MOST, MOST);
        fits(row(MOST, 1), 0, 0, MOST, 1);
        fits(row(-MOST, MOST), -1, -MOST, 0, MOST);
        fits(row(1, 1), 1 - MOST, MOST - 1, MOST, 1);
        fits(row(-1, 1), MOST - 1, MOST - 1, -MOST, 1);
    }

    private static void beyondByTimes(int[] a, int r) {
        RootIsolator x = pair(a, 1, 2);
        x.isolate(3);
        String before = state(x);
        due("times(" + r + ")", x.times(r), FULL);
        stays("times(" + r + ")", x, before);
    }

    private static void fits(int[] a, int r, int... then) {
        RootIsolator x = of(a);
        due("times(" + r + ")", x.times(r), then.length - 1);
        holds("times(" + r + ")", x, 0, then);
    }

    private static void timesForgets() {
        says("else nothing is isolated.");
        RootIsolator x = isolated();
        due("times(5)", x.times(5), 4);
        nothingIsolated("times(5)", x);
        due("isolate", x.isolate(0), 4);
        due("times(0)", x.times(0), 5);
        nothingIsolated("times(0)", x);
        RootIsolator y = of(7);
        y.isolate(0);
        due("of a constant", y.times(5), 1);
        nothingIsolated("of a constant", y);
        due("and it is another A", y.roots(0), 1);
    }

    // ---- Promise 18

    private static void shifts() {
        says("A is moved: it becomes what A is at x + r, r being a whole number: its DEGREE.");
        // (x - 13)^8 is the farthest eighth power that fits.
        int[] eighth = product(row(-13, 1), row(-13, 1), row(-13, 1), row(-13, 1),
            row(-13, 1), row(-13, 1), row(-13, 1), row(-13, 1));
        RootIsolator x = pair(eighth, 5, 6);
        due("to x^8", x.shift(13), 8);
        holds("to x^8", x, 0, 0, 0, 0, 0, 0, 0, 0, 0, 1);
        holds("B stays", x, 1, 5, 6);
        due("back", x.shift(-13), 8);
        holds("back", x, 0, eighth);
        due("by 0", x.shift(0), 8);
        holds("by 0", x, 0, eighth);
        fill(x, 0, 0, 1);
        due("to the greatest number", x.shift(MOST), 1);
        holds("to the greatest number", x, 0, MOST, 1);
        due("to the least number", x.shift(-2 * MOST), 1);
        holds("to the least number", x, 0, -MOST, 1);
        fill(x, 0, -MOST, MOST);
        due("the greatest factor", x.shift(2), 1);
        holds("the greatest factor", x, 0, MOST, MOST);
        fill(x, 0, -MOST);
        due("a constant by the least int", x.shift(LEAST_INT), 0);
        due("a constant by the greatest int", x.shift(GREATEST_INT), 0);
        holds("a constant", x, 0, -MOST);
        says("ZERO");
        fill(x, 0);
        for (int r : new int[] {0, 1, LEAST_INT, GREATEST_INT}) {
            due("shift(" + r + ")", x.shift(r), ZERO);
        }
        holds("A stays", x, 0);
        holds("B stays", x, 1, 5, 6);
    }

    private static void shiftFull() {
        says("FULL, and nothing is done: a number would be beyond 1000000000");
        beyondByShift(row(0, 1), MOST + 1);
        beyondByShift(row(0, 1), -MOST - 1);
        beyondByShift(row(MOST, 1), 1);
        beyondByShift(row(-MOST, 1), -1);
        beyondByShift(row(MOST, 1), LEAST_INT);
        beyondByShift(row(-MOST, 1), GREATEST_INT);
        beyondByShift(row(-MOST, 1), 2 * MOST + 1);
        beyondByShift(row(0, 0, 0, 1), 1001);
        beyondByShift(row(0, 0, 0, 1), -1001);
        beyondByShift(row(-1, 0, 0, -1), 1000);
        beyondByShift(row(0, 0, 0, 0, 0, 0, 0, 0, 1), 14);
        // The second number from above alone: the first one stays what it is.
        beyondByShift(row(-500000001, 0, 500000001), -1);
        // What an int would make of it is 4 x.
        beyondByShift(row(0, 4), 1 << 30);
        // x^8 - 4 r x^7 at r = 2^22: longs would wrap around to x^8 + 4 r x^7
        beyondByShift(row(0, 0, 0, 0, 0, 0, 0, -(1 << 24), 1), 1 << 22);
        // x^4 at r = 2^16: ints would wrap around to x^4 + 4 r x^3
        beyondByShift(row(0, 0, 0, 0, 1), 65536);
        RootIsolator x = of(0, 0, 0, 1);
        due("up to 1000000000", x.shift(1000), 3);
        holds("up to 1000000000", x, 0, MOST, 3000000, 3000, 1);
        fill(x, 0, -500000000, 0, 500000000);
        due("down to -1000000000", x.shift(-1), 2);
        holds("down to -1000000000", x, 0, 0, -MOST, 500000000);
    }

    private static void beyondByShift(int[] a, int r) {
        RootIsolator x = pair(a, 1, 2);
        x.isolate(3);
        String before = state(x);
        due("shift(" + r + ")", x.shift(r), FULL);
        stays("shift(" + r + ")", x, before);
    }

    private static void shiftForgets() {
        says("else nothing is isolated.");
        RootIsolator x = isolated();
        due("shift(5)", x.shift(5), 3);
        nothingIsolated("shift(5)", x);
        due("isolate", x.isolate(0), 3);
        root("5 less", x, 1, 0, -5, 1, 1);
        due("shift(0)", x.shift(0), 3);
        nothingIsolated("shift(0)", x);
        due("up to -5 + 1", x.between(0, -9, 0, -4, 0), 2);
        due("shift(-5)", x.shift(-5), 3);
        due("up to 1", x.between(0, -9, 0, 1, 0), 2);
        holds("and back", x, 0, THREE);
    }

    // ---- Promise 19

    private static void swaps() {
        says("A and B change places; nothing is isolated: A's DEGREE then, or ZERO.");
        RootIsolator x = isolated();
        due("swap", x.swap(), 1);
        holds("swap", x, 0, 1, 2);
        holds("swap", x, 1, THREE);
        nothingIsolated("swap", x);
        due("back", x.swap(), 3);
        nothingIsolated("back: what was isolated stays forgotten", x);
        fill(x, 1);
        due("A becomes ZERO", x.swap(), ZERO);
        due("B is not ZERO", x.degree(1), 3);
        due("and back", x.swap(), 3);
        due("B is ZERO", x.degree(1), ZERO);
        fill(x, 1, -7);
        due("A becomes a constant", x.swap(), 0);
        RootIsolator y = new RootIsolator();
        due("both are ZERO", y.swap(), ZERO);
        fill(y, 0, THREE);
        fill(y, 1, THREE);
        y.isolate(0);
        due("both are the same", y.swap(), 3);
        nothingIsolated("both are the same", y);
        y.set(0, 0, 0);
        due("yet they are two", y.get(1, 0), 2);
    }

    public static void main(String[] args) {
        newObject();
        setOfA();
        setRefused();
        getNone();
        degreeRefused();
        signs();
        signRefused();
        partsOfTheLine();
        partsTurned();
        allPartsOfTheLine();
        betweenRefused();
        allRoots();
        rootsRefused();
        isolates();
        isolateRefused();
        isolateZero();
        isolateTight();
        noSuchRoot();
        asItWasIsolated();
        theCells();
        upperEnds();
        multiplicities();
        signsOfB();
        signsOfBFarOut();
        inCommon();
        inCommonZero();
        divisors();
        withGaps();
        divisorsOfZero();
        derives();
        deriveFull();
        timesOf();
        timesFull();
        timesForgets();
        shifts();
        shiftFull();
        shiftForgets();
        swaps();
        end();
    }
}
