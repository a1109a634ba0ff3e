// The boundary cases that the section "Terms" names, one part for each of its sentences.
public final class TermsTest extends Checks {
    private static final int[] TWO_AND_ITS_OPPOSITE = {-2, 0, 1};
    private static final long ONE = 1L << 30;

    private static void lastCall() {
        says("An object is used for at most 512 calls after it has been made");
        RootIsolator x = of(-2, 0, 1);
        for (int call = 10; call < 511; call += 3) {
            x.isolate(30);
            x.derive();
            x.signAt(1);
        }
        x.common();
        due("the 512th call, cell(1)", x.cell(1), 1518500249L);
    }

    private static void coefficients() {
        says("POLYNOMIALS A (0) and B (1) have coefficients 0 .. 8 (that of x to that power), "
            + "each -1000000000 .. 1000000000, all 0 at first.");
        RootIsolator x = new RootIsolator();
        holds("at first", x, 0);
        holds("at first", x, 1);
        for (int power = 0; power <= 8; power++) {
            due("the greatest", x.set(0, power, MOST - power), 0);
            due("the least", x.set(1, power, power - MOST), 0);
        }
        for (int power = 0; power <= 8; power++) {
            due("the greatest are kept", x.get(0, power), MOST - power);
            due("the least are kept", x.get(1, power), power - MOST);
        }
        for (int power = 1; power <= 8; power++) {
            // x to that power less 2 to that power
            RootIsolator y = new RootIsolator();
            y.set(0, power, 1);
            y.set(0, 0, -(1 << power));
            due("below 2", y.sign(0, 2 * ONE - 1, 30), -1);
            due("at 2", y.sign(0, 2, 0), 0);
            due("above 2", y.sign(0, 2 * ONE + 1, 30), 1);
            due("at -2", y.sign(0, -2, 0), power % 2 == 0 ? 0 : -1);
        }
    }

    private static void theDegree() {
        says("THE DEGREE is that of the greatest one that is not 0; without one it is ZERO.");
        RootIsolator x = pair(row(1, 0, 0, 0, 0, 0, 0, 0, 1), 0, 0, 0, 0, 0, 0, 0, 0, -MOST);
        due("all but two are 0", x.degree(0), 8);
        due("all but the last are 0", x.degree(1), 8);
        x.set(0, 8, 0);
        due("the first alone", x.degree(0), 0);
        x.set(0, 0, -1);
        due("the first alone, below 0", x.degree(0), 0);
        x.set(0, 0, 0);
        due("none", x.degree(0), ZERO);
        x.set(1, 3, 1);
        x.set(1, 8, 0);
        due("the next one that is not 0", x.degree(1), 3);
        x.set(1, 3, 0);
        due("none is left", x.degree(1), ZERO);
    }

    private static void points() {
        says("A POINT is a fraction n / 2 to the power e: n any long, e 0 .. 30.");
        RootIsolator x = pair(row(-1, 1), 0, 1);
        for (int e = 0; e <= 30; e++) {
            long one = 1L << e;
            due("1 at level " + e, x.sign(0, one, e), 0);
            due("its neighbour above", x.sign(0, one + 1, e), 1);
            due("its neighbour below", x.sign(0, one - 1, e), -1);
            due("0 at level " + e, x.sign(1, 0, e), 0);
            due("the least long", x.sign(1, Long.MIN_VALUE, e), -1);
            due("the greatest long", x.sign(1, Long.MAX_VALUE, e), 1);
            due("up to 1 written so", x.between(0, 0, 0, one, e), 1);
            due("above 1 written so", x.between(0, one, e, 2, 0), 0);
            due("from the least long to the greatest", x.between(0, Long.MIN_VALUE, e, Long.MAX_VALUE, e), 1);
        }
        for (int e : new int[] {-1, 31}) {
            due("sign at " + e, x.sign(0, 1, e), BAD);
            due("between from " + e, x.between(0, 0, e, 1, 0), BAD);
            due("between up to " + e, x.between(0, 0, 0, 1, e), BAD);
        }
    }

    private static void theRoots() {
        says("ROOTS are the real numbers at which a polynomial that is not ZERO is 0, each once, the least first");
        RootIsolator x = of(0, -5040, 13068, -13132, 6769, -1960, 322, -28, 1);
        due("0 .. 7 moved to -4 .. 3", x.shift(4), 8);
        due("eight", x.roots(0), 8);
        due("eight", x.isolate(0), 8);
        for (int i = 0; i < 8; i++) {
            root("the least first", x, i, 0, i - 5, 1, 1);
        }
        fill(x, 0, product(row(-1, 0, 1), row(-1, 0, 1), row(-1, 0, 1), row(-1, 0, 1)));
        due("each once", x.roots(0), 2);
        due("each once", x.isolate(0), 2);
        due("each once", x.between(0, -9, 0, 9, 0), 2);
        fill(x, 0, 1, 0, 0, 0, 0, 0, 0, 0, 1);
        due("what is not real is none", x.roots(0), 0);
        fill(x, 0, -7);
        due("a constant has none", x.roots(0), 0);
        fill(x, 0);
        due("ZERO has no number of them", x.roots(0), ZERO);
    }

    private static void theMultiplicity() {
        says("MULTIPLICITY is how often its factor stands in the polynomial.");
        RootIsolator x = of(product(row(-1, 1), row(-1, 1), row(-1, 1), TWO_AND_ITS_OPPOSITE, TWO_AND_ITS_OPPOSITE));
        due("five factors", x.isolate(0), 3);
        root("twice", x, 0, 0, -2, 0, 2);
        root("three times", x, 1, 0, 0, 1, 3);
        root("twice, above a root that ends its cell", x, 2, 0, 1, 0, 2);
        fill(x, 0, product(row(-1, 2), row(-2, 4), row(3, -6), row(1, 0, 1), row(1, 0, 1)));
        due("factors that differ by a number", x.isolate(0), 1);
        root("three times", x, 0, 0, 0, 0, 3);
        fill(x, 0, 0, 0, 0, 0, 0, 0, 0, 0, -MOST);
        due("all eight", x.isolate(30), 1);
        root("all eight", x, 0, 30, -1, 1, 8);
    }

    /** The cell of n / 2^k at level s, and whether it ends there. */
    private static void cellOfFraction(int n, int k, int s) {
        RootIsolator x = new RootIsolator();
        x.set(0, 1, 1 << k);
        x.set(0, 0, -n);
        String what = n + " / 2^" + k + " at level " + s;
        due(what, x.isolate(s), 1);
        long scaled = (long) n << s;
        long cell = -Math.floorDiv(-scaled, 1L << k) - 1;
        root(what, x, 0, s, cell, Math.floorMod(scaled, 1L << k) == 0 ? 1 : 0, 1);
        due(what + ": it is in the cell", x.between(0, cell, s, cell + 1, s), 1);
    }

    private static void theCell() {
        says("THE CELL of a real number at LEVEL s (0 .. 30): that whole m with m / 2^s < it <= (m + 1) / 2^s.");
        for (int k : new int[] {0, 1, 2, 15, 29}) {
            for (int n : new int[] {-(1 << k) - 1, -(1 << k), 1 - (1 << k), -1, 0, 1, (1 << k) - 1, 1 << k, (1 << k) + 1}) {
                for (int s : new int[] {0, 1, 2, 14, 15, 16, 28, 29, 30}) {
                    cellOfFraction(n, k, s);
                }
            }
        }
        outermostCells();
    }

    private static void outermostCells() {
        RootIsolator x = of(-MOST, 1);
        x.isolate(30);
        root("1000000000", x, 0, 30, MOST * ONE - 1, 1, 1);
        fill(x, 0, MOST, 1);
        x.isolate(30);
        root("-1000000000", x, 0, 30, -MOST * ONE - 1, 1, 1);
        // The greatest root that there can be: under 1000000001 by some 10^-63.
        fill(x, 0, -MOST, -MOST, -MOST, -MOST, -MOST, -MOST, -MOST, -MOST, 1);
        due("the greatest", x.isolate(30), 2);
        root("over -1 by less than 2^-30", x, 0, 30, -ONE, 0, 1);
        root("the greatest", x, 1, 30, (MOST + 1) * ONE - 1, 0, 1);
        due("the greatest at level 0", x.isolate(0), 2);
        root("the greatest at level 0", x, 1, 0, MOST, 0, 1);
        // The same with its sign turned.
        fill(x, 0, -MOST, MOST, -MOST, MOST, -MOST, MOST, -MOST, MOST, 1);
        due("the least", x.isolate(30), 2);
        root("the least", x, 0, 30, -(MOST + 1) * ONE, 0, 1);
        root("under 1 by less than 2^-30", x, 1, 30, ONE - 1, 0, 1);
        due("the least at level 0", x.isolate(0), 2);
        root("the least at level 0", x, 0, 0, -MOST - 1, 0, 1);
        // A little under 1 + 3 / 2, and a little over its opposite
        fill(x, 0, -3, -3, -3, -3, -3, -3, -3, -3, 2);
        due("under 5 / 2", x.isolate(1), 2);
        root("under 5 / 2", x, 1, 1, 4, 0, 1);
        fill(x, 0, -3, 3, -3, 3, -3, 3, -3, 3, 2);
        due("over -5 / 2", x.isolate(1), 2);
        root("over -5 / 2", x, 0, 1, -5, 0, 1);
    }

    private static void thePlace() {
        says("THE PLACE of a root of a polynomial from LEVEL e on: the least LEVEL s from e on at which its CELL "
            + "has no other root of it, and that m.");
        RootIsolator x = of(product(row(-1, 8), row(-2, 8), row(-5, 1)));
        for (int e = 0; e <= 3; e++) {
            due("from level " + e, x.isolate(e), 3);
            root("the least level that parts them", x, 0, 3, 0, 1, 1);
            root("the least level that parts them", x, 1, 3, 1, 1, 1);
            root("alone from the first level on", x, 2, e, (5L << e) - 1, 1, 1);
        }
        due("from a level that parts them already", x.isolate(4), 3);
        root("the level asked for", x, 0, 4, 1, 1, 1);
        root("the level asked for", x, 1, 4, 3, 1, 1);
        fill(x, 0, product(row(-1, 1), row(-3, 2)));
        x.isolate(0);
        root("the other root is the cell's lower end, which is outside", x, 1, 0, 1, 0, 1);
        root("the other root is above the cell", x, 0, 0, 0, 1, 1);
        fill(x, 0, product(row(-2, 1), row(-3, 2)));
        x.isolate(0);
        root("the other root is the cell's upper end, which is inside", x, 0, 1, 2, 1, 1);
        root("the other root is inside", x, 1, 1, 3, 1, 1);
        fill(x, 0, product(row(0, 1), row(-1, 1 << 29)));
        x.isolate(0);
        root("0 and the least fraction above it", x, 0, 0, -1, 1, 1);
        root("0 and the least fraction above it", x, 1, 0, 0, 0, 1);
        fill(x, 0, product(row(0, 1), row(1, 1 << 29)));
        x.isolate(0);
        root("0 and the greatest fraction below it", x, 0, 29, -2, 1, 1);
        root("0 and the greatest fraction below it", x, 1, 29, -1, 1, 1);
        fill(x, 0, product(row(-1, 1), row(-1, 1)));
        x.isolate(0);
        root("a root that counts twice is no other root", x, 0, 0, 0, 1, 2);
        twoPairs();
        nearPlaces();
    }

    /** Two pairs that part at levels that differ: no pair waits for the other. */
    private static void twoPairs() {
        RootIsolator x = of(product(row(-1, 8), row(-2, 8), row(-9, 2), row(-5, 1)));
        due("the upper pair parts first", x.isolate(0), 4);
        root("1 / 8", x, 0, 3, 0, 1, 1);
        root("2 / 8", x, 1, 3, 1, 1, 1);
        root("9 / 2", x, 2, 1, 8, 1, 1);
        root("5", x, 3, 1, 9, 1, 1);
        fill(x, 0, product(row(-1, 2), row(-1, 1), row(-33, 8), row(-34, 8)));
        due("the lower pair parts first", x.isolate(0), 4);
        root("1 / 2", x, 0, 1, 0, 1, 1);
        root("1", x, 1, 1, 1, 1, 1);
        root("33 / 8", x, 2, 3, 32, 1, 1);
        root("34 / 8", x, 3, 3, 33, 1, 1);
        // 1 / 8, 2 / 8 and 7 / 8 share a cell at first; then the last has one of its own.
        fill(x, 0, product(row(-1, 8), row(-2, 8), row(-7, 8)));
        due("three in a cell", x.isolate(0), 3);
        root("1 / 8", x, 0, 3, 0, 1, 1);
        root("2 / 8", x, 1, 3, 1, 1, 1);
        root("7 / 8", x, 2, 1, 1, 0, 1);
        // The same m at two levels is not the same cell.
        fill(x, 0, product(row(7, 2), row(7, 4), row(5, 4)));
        due("m is -4 twice", x.isolate(0), 3);
        root("-7 / 2", x, 0, 0, -4, 0, 1);
        root("-7 / 4", x, 1, 1, -4, 0, 1);
        root("-5 / 4", x, 2, 1, -3, 0, 1);
        fill(x, 0, product(row(-5, 4), row(-7, 4), row(-7, 2)));
        due("m is 3 twice", x.isolate(0), 3);
        root("5 / 4", x, 0, 1, 2, 0, 1);
        root("7 / 4", x, 1, 1, 3, 0, 1);
        root("7 / 2", x, 2, 0, 3, 0, 1);
    }

    /** Roots nearer than any level's cells, yet a fraction that ends its cell lies between them. */
    private static void nearPlaces() {
        // u (u - x^7), u = 2^14 x - 1
        RootIsolator x = of(1, -(1 << 15), 1 << 28, 0, 0, 0, 0, 1, -(1 << 14));
        due("apart by 2^-112", x.isolate(0), 4);
        root("the lower of the two", x, 1, 14, 0, 1, 1);
        root("the upper of the two", x, 2, 14, 1, 0, 1);
        due("apart by 2^-112, from 30", x.isolate(30), 4);
        root("the lower of the two", x, 1, 30, (1 << 16) - 1, 1, 1);
        root("the upper of the two", x, 2, 30, 1 << 16, 0, 1);
        // u (u - x^5), u = 32 x - 1
        fill(x, 0, product(row(-1, 32), row(-1, 32, 0, 0, 0, -1)));
        due("apart by 2^-30", x.isolate(0), 4);
        root("alone", x, 0, 0, -3, 0, 1);
        root("the lower of the two", x, 1, 5, 0, 1, 1);
        root("the upper of the two", x, 2, 5, 1, 0, 1);
        root("alone", x, 3, 0, 2, 0, 1);
    }

    private static void isTight(String what, int... a) {
        RootIsolator x = of(a);
        for (int e = 0; e <= 30; e += 15) {
            due(what + ": isolate(" + e + ")", x.isolate(e), TIGHT);
        }
        nothingIsolated(what, x);
    }

    private static void tight() {
        says("It is TIGHT, if there is no such LEVEL up to 30.");
        // x^3 - (6220 x - 1)^2
        RootIsolator x = of(-1, 12440, -38688400, 1);
        due("apart from level 30 on", x.isolate(0), 3);
        root("apart from level 30 on", x, 0, 30, 172626, 0, 1);
        root("apart from level 30 on", x, 1, 30, 172627, 0, 1);
        due("apart from level 30 on, asked for", x.isolate(30), 3);
        isTight("apart from level 31 on: x^3 - (6317 x - 1)^2", -1, 12634, -39904489, 1);
        // u (u + 2 x^5), u = 32 x - 1: apart by a little less than 2^-29
        fill(x, 0, product(row(-1, 32), row(-1, 32, 0, 0, 0, 2)));
        due("the upper one ends its cell", x.isolate(0), 2);
        root("the upper one ends its cell", x, 0, 30, (1 << 25) - 2, 0, 1);
        root("the upper one ends its cell", x, 1, 30, (1 << 25) - 1, 1, 1);
        isTight("the upper one ends its cell, apart by a little less than 2^-30",
            product(row(-1, 32), row(-1, 32, 0, 0, 0, 1)));
        isTight("apart by 2^-112", 1, -(1 << 15), 1 << 28, 0, 0, 0, 0, -1, 1 << 14);
        isTight("one of the two counts twice", product(row(-1, 32), row(-1, 32), row(-1, 32, 0, 0, 0, 0, 1)));
    }

    public static void main(String[] args) {
        lastCall();
        coefficients();
        theDegree();
        points();
        theRoots();
        theMultiplicity();
        theCell();
        thePlace();
        tight();
        end();
    }
}
