// One part for each promise of the document: ordinary inputs, the edges it names, wrong inputs.
public final class PromiseTest extends Checks {
    private static void newObject() {
        RootIsolator x = new RootIsolator();
        for (int which = 0; which <= 1; which++) {
            holds("1", x, which);
            due("1: degree", x.degree(which), ZERO);
        }
        nothingIsolated("1", x);
        RootIsolator y = new RootIsolator();
        x.set(0, 3, 7);
        due("1: two objects share nothing", y.get(0, 3), 0);
    }

    private static void set() {
        RootIsolator x = new RootIsolator();
        for (int power = 0; power <= 8; power++) {
            due("2: most", x.set(0, power, MOST), 0);
            due("2: least", x.set(1, power, -MOST), 0);
        }
        holds("2", x, 0, MOST, MOST, MOST, MOST, MOST, MOST, MOST, MOST, MOST);
        holds("2", x, 1, -MOST, -MOST, -MOST, -MOST, -MOST, -MOST, -MOST, -MOST, -MOST);
        for (int which : WRONG_WHICH) {
            due("2: set(" + which + ")", x.set(which, 0, 1), BAD);
        }
        for (int power : WRONG_POWER) {
            due("2: set(0, " + power + ")", x.set(0, power, 1), BAD);
            due("2: set(1, " + power + ")", x.set(1, power, 1), BAD);
        }
        for (int c : new int[] {MOST + 1, -MOST - 1, Integer.MIN_VALUE, Integer.MAX_VALUE}) {
            due("2: set(0, 0, " + c + ")", x.set(0, 0, c), BAD);
            due("2: set(1, 8, " + c + ")", x.set(1, 8, c), BAD);
        }
        holds("2: after BAD", x, 0, MOST, MOST, MOST, MOST, MOST, MOST, MOST, MOST, MOST);

        RootIsolator y = of(-1, 1);
        y.isolate(0);
        y.set(1, 0, 5);
        y.set(0, 9, 5);
        y.set(0, 0, MOST + 1);
        y.set(2, 0, 5);
        root("2: B's and BAD leave it", y, 0, 0, 0, 1, 1);
        y.set(0, 0, -1);
        nothingIsolated("2: A's, even the same", y);
    }

    private static void get() {
        RootIsolator x = pair(row(1, -2, 3, 0, 0, 0, 0, 0, -9), 4, 0, 0, 0, 0, 0, 0, 0, 8);
        holds("3", x, 0, 1, -2, 3, 0, 0, 0, 0, 0, -9);
        holds("3", x, 1, 4, 0, 0, 0, 0, 0, 0, 0, 8);
        for (int which : WRONG_WHICH) {
            due("3: get(" + which + ", 0)", x.get(which, 0), 0);
        }
        for (int power : WRONG_POWER) {
            due("3: get(0, " + power + ")", x.get(0, power), 0);
            due("3: get(1, " + power + ")", x.get(1, power), 0);
        }
    }

    private static void degree() {
        RootIsolator x = new RootIsolator();
        due("4: zero", x.degree(0), ZERO);
        for (int power = 0; power <= 8; power++) {
            x.set(1, power, -1);
            due("4: up", x.degree(1), power);
        }
        for (int power = 8; power >= 0; power--) {
            due("4: down", x.degree(1), power);
            x.set(1, power, 0);
        }
        due("4: zero again", x.degree(1), ZERO);
        for (int which : WRONG_WHICH) {
            due("4: degree(" + which + ")", x.degree(which), BAD);
        }
    }

    private static void sign() {
        RootIsolator x = pair(row(-2, 0, 1), 0, 0, 0, 0, 0, 0, 0, 0, MOST);
        due("5: below", x.sign(0, -3, 1), 1);
        due("5: within", x.sign(0, 0, 0), -1);
        due("5: level 30, under the root of 2", x.sign(0, 1518500249L, 30), -1);
        due("5: level 30, over the root of 2", x.sign(0, 1518500250L, 30), 1);
        due("5: even power at the least long", x.sign(1, Long.MIN_VALUE, 0), 1);
        due("5: at 0", x.sign(1, 0, 30), 0);
        fill(x, 1, MOST, -MOST, MOST, -MOST, MOST, -MOST, MOST, -MOST, 0);
        due("5: odd power at the least long", x.sign(1, Long.MIN_VALUE, 30), 1);
        due("5: odd power at the greatest long", x.sign(1, Long.MAX_VALUE, 0), -1);
        due("5: at 1", x.sign(1, 1L << 30, 30), 0);
        due("5: just above 1", x.sign(1, (1L << 30) + 1, 30), -1);
        due("5: just below 1", x.sign(1, (1L << 30) - 1, 30), 1);
        fill(x, 1, 0, -1, 1 << 29);
        due("5: at 1 / 2^29", x.sign(1, 2, 30), 0);
        due("5: at 1 / 2^30", x.sign(1, 1, 30), -1);
        fill(x, 1);
        due("5: ZERO is 0 everywhere", x.sign(1, 77, 3), 0);
        for (int which : WRONG_WHICH) {
            due("5: sign(" + which + ")", x.sign(which, 0, 0), BAD);
        }
        for (int e : WRONG_LEVEL) {
            due("5: sign(0, 0, " + e + ")", x.sign(0, 0, e), BAD);
            due("5: BAD before ZERO", x.sign(1, 0, e), BAD);
        }
    }

    private static void between() {
        // (x - 1)^2 (x - 2) (x^2 - 2)
        RootIsolator x = of(4, -10, 6, 3, -4, 1);
        due("6: all", x.between(0, Long.MIN_VALUE, 0, Long.MAX_VALUE, 0), 4);
        due("6: above 1", x.between(0, 1, 0, 5, 0), 2);
        due("6: up to 1", x.between(0, 0, 0, 1, 0), 1);
        due("6: 1 alone", x.between(0, (1L << 30) - 1, 30, 1, 0), 1);
        due("6: above 1 by 2^-30", x.between(0, 1, 0, (1L << 30) + 1, 30), 0);
        due("6: from root to root", x.between(0, 1, 0, 2, 0), 2);
        due("6: up to 2 less 2^-30", x.between(0, 1, 0, (1L << 31) - 1, 30), 1);
        due("6: the cell of the root of 2", x.between(0, 1518500249L, 30, 1518500250L, 30), 1);
        due("6: the one below", x.between(0, 1518500248L, 30, 1518500249L, 30), 0);
        due("6: the same point twice", x.between(0, 1, 0, 1L << 30, 30), 0);
        due("6: backwards", x.between(0, 5, 0, -5, 0), 0);
        due("6: backwards by a little", x.between(0, 5, 1, 2, 0), 0);
        due("6: backwards over a root, e above f", x.between(0, 3, 1, 1, 0), 0);
        due("6: backwards over a root, e below f", x.between(0, 2, 0, 5, 2), 0);
        due("6: levels that differ", x.between(0, 3, 2, 3, 1), 2);
        due("6: longs that would overflow", x.between(0, Long.MIN_VALUE, 30, Long.MAX_VALUE, 0), 4);
        due("6: the same, turned", x.between(0, Long.MAX_VALUE, 0, Long.MIN_VALUE, 30), 0);
        fill(x, 1, 7);
        due("6: a constant", x.between(1, -5, 0, 5, 0), 0);
        due("6: a constant, backwards", x.between(1, 5, 0, -5, 0), 0);
        fill(x, 1);
        due("6: ZERO", x.between(1, -5, 0, 5, 0), ZERO);
        due("6: ZERO before the order", x.between(1, 5, 0, -5, 0), ZERO);
        for (int which : WRONG_WHICH) {
            due("6: between(" + which + ")", x.between(which, 0, 0, 1, 0), BAD);
        }
        for (int e : WRONG_LEVEL) {
            due("6: e " + e, x.between(0, 0, e, 1, 0), BAD);
            due("6: f " + e, x.between(0, 0, 0, 1, e), BAD);
            due("6: BAD before the order", x.between(0, 1, 0, 0, e), BAD);
            due("6: BAD before ZERO", x.between(1, 0, e, 1, 0), BAD);
        }
    }

    private static void roots() {
        RootIsolator x = pair(row(1, 0, 1), 7);
        due("7: none", x.roots(0), 0);
        due("7: a constant", x.roots(1), 0);
        // (x^2 - 1)^4
        fill(x, 1, 1, 0, -4, 0, 6, 0, -4, 0, 1);
        due("7: each once", x.roots(1), 2);
        // x (x - 1) .. (x - 7)
        fill(x, 0, 0, -5040, 13068, -13132, 6769, -1960, 322, -28, 1);
        due("7: eight", x.roots(0), 8);
        // x^8 - 2 (22360 x - 1)^2: two roots nearer than 2^-60
        fill(x, 0, -2, 89440, -999939200, 0, 0, 0, 0, 0, 1);
        due("7: near ones", x.roots(0), 4);
        fill(x, 0, MOST, MOST, MOST, MOST, MOST, MOST, MOST, MOST, MOST);
        due("7: the greatest numbers", x.roots(0), 0);
        fill(x, 0, -MOST, -MOST, -MOST, -MOST, -MOST, -MOST, -MOST, -MOST, MOST);
        due("7: the least numbers", x.roots(0), 2);
        fill(x, 0);
        due("7: ZERO", x.roots(0), ZERO);
        for (int which : WRONG_WHICH) {
            due("7: roots(" + which + ")", x.roots(which), BAD);
        }
    }

    private static void isolate() {
        // (8 x - 1) (8 x - 2) (x - 5): the first two share cells up to level 2
        RootIsolator x = of(-10, 122, -344, 64);
        due("8: isolate(0)", x.isolate(0), 3);
        root("8", x, 0, 3, 0, 1, 1);
        root("8", x, 1, 3, 1, 1, 1);
        root("8", x, 2, 0, 4, 1, 1);
        due("8: isolate(5)", x.isolate(5), 3);
        root("8", x, 0, 5, 3, 1, 1);
        root("8", x, 1, 5, 7, 1, 1);
        root("8", x, 2, 5, 159, 1, 1);
        for (int e : WRONG_LEVEL) {
            due("8: isolate(" + e + ")", x.isolate(e), BAD);
        }
        root("8: with BAD all stays", x, 2, 5, 159, 1, 1);
        fill(x, 0, 7);
        due("8: a constant", x.isolate(0), 0);
        noRoot("8: a constant", x, 0);
        fill(x, 0);
        due("8: ZERO", x.isolate(0), ZERO);
        due("8: BAD before ZERO", x.isolate(31), BAD);
        nothingIsolated("8: ZERO", x);
        // (2^29 x - 1) (x - 1) x: 0 and 1 / 2^29 part at level 0 already, for 0 is an upper end
        fill(x, 0, 0, 1, -(1 << 29) - 1, 1 << 29);
        due("8: a root that ends a cell", x.isolate(0), 3);
        root("8", x, 0, 0, -1, 1, 1);
        root("8", x, 1, 1, 0, 0, 1);
        root("8", x, 2, 1, 1, 1, 1);
        tight();
    }

    private static void tight() {
        RootIsolator x = of(-2, 89440, -999939200, 0, 0, 0, 0, 0, 1);
        due("8: TIGHT from 0", x.isolate(0), TIGHT);
        nothingIsolated("8: TIGHT", x);
        due("8: TIGHT from 30", x.isolate(30), TIGHT);
        fill(x, 0, -1, 1);
        due("8: isolated before", x.isolate(0), 1);
        x.swap();
        fill(x, 0, -2, 89440, -999939200, 0, 0, 0, 0, 0, 1);
        due("8: TIGHT after", x.isolate(0), TIGHT);
        nothingIsolated("8: TIGHT after", x);
        // (30000 x - 1) (30001 x - 1): apart for the first time at the last level
        fill(x, 0, 1, -60001, 900030000);
        due("8: the last level", x.isolate(0), 2);
        root("8: the last level", x, 0, 30, 35790, 0, 1);
        root("8: the last level", x, 1, 30, 35791, 0, 1);
        // (x^2 - 2) (470832 x - 665857): nearer than 2^-30, but only two of the three
        fill(x, 0, 1331714, -941664, -665857, 470832);
        due("8: some root is TIGHT", x.isolate(12), TIGHT);
        nothingIsolated("8: some root is TIGHT", x);
    }

    private static void level() {
        RootIsolator x = of(-2, 0, 1);
        nothingIsolated("9", x);
        for (int e = 0; e <= 30; e++) {
            x.isolate(e);
            due("9: level(0)", x.level(0), e);
            due("9: level(1)", x.level(1), e);
        }
        for (int i : new int[] {-1, 2, 8, 9, Integer.MIN_VALUE, Integer.MAX_VALUE}) {
            noRoot("9", x, i);
        }
    }

    private static void cell() {
        RootIsolator x = of(-MOST, 1);
        due("10: the greatest root", x.isolate(30), 1);
        root("10", x, 0, 30, MOST * (1L << 30) - 1, 1, 1);
        fill(x, 0, MOST, 1);
        due("10: the least root", x.isolate(30), 1);
        root("10", x, 0, 30, -MOST * (1L << 30) - 1, 1, 1);
        fill(x, 0, -MOST, -MOST, 1);
        due("10: a root above 1000000000", x.isolate(0), 2);
        root("10", x, 0, 0, -1, 0, 1);
        root("10", x, 1, 0, MOST, 0, 1);
        fill(x, 0, -1, 3);
        x.isolate(2);
        root("10: a third", x, 0, 2, 1, 0, 1);
        fill(x, 0, 1, 3);
        x.isolate(2);
        root("10: minus a third", x, 0, 2, -2, 0, 1);
        fill(x, 0, 0, 5);
        x.isolate(7);
        root("10: 0 ends the cell below it", x, 0, 7, -1, 1, 1);
    }

    private static void exact() {
        RootIsolator x = of(-1, 2);
        x.isolate(0);
        root("11: a half at level 0", x, 0, 0, 0, 0, 1);
        x.isolate(1);
        root("11: a half at level 1", x, 0, 1, 0, 1, 1);
        x.isolate(30);
        root("11: a half at level 30", x, 0, 30, (1L << 29) - 1, 1, 1);
        fill(x, 0, 1, -4, 4);
        x.isolate(1);
        root("11: a half twice", x, 0, 1, 0, 1, 2);
        fill(x, 0, -1, 0, 0, 3);
        x.isolate(30);
        due("11: the third root of a third", x.exact(0), 0);
    }

    private static void multiplicity() {
        RootIsolator x = new RootIsolator();
        for (int many = 1; many <= 8; many++) {
            fill(x, 0);
            x.set(0, many, -3);
            due("12: x^" + many, x.isolate(4), 1);
            root("12: x^" + many, x, 0, 4, -1, 1, many);
        }
        // (x^2 - 2)^3 (x - 1)^2
        fill(x, 0, -8, 16, 4, -24, 6, 12, -5, -2, 1);
        due("12: three", x.isolate(0), 3);
        root("12", x, 0, 0, -2, 0, 3);
        root("12", x, 1, 0, 0, 1, 2);
        root("12", x, 2, 0, 1, 0, 3);
        fill(x, 0, 0, 0, 0, 0, 1, -4, 6, -4, 1);
        due("12: x^4 (x - 1)^4", x.isolate(0), 2);
        root("12", x, 0, 0, -1, 1, 4);
        root("12", x, 1, 0, 0, 1, 4);
        // (x^2 + 1)^3 (3 x - 1)^2: what is not real does not count
        fill(x, 0, 1, -6, 12, -18, 30, -18, 28, -6, 9);
        due("12: one real", x.isolate(0), 1);
        root("12", x, 0, 0, 0, 0, 2);
        // (10 x - 1)^8
        fill(x, 0, 1, -80, 2800, -56000, 700000, -5600000, 28000000, -80000000, 100000000);
        due("12: eight times a tenth", x.isolate(30), 1);
        root("12", x, 0, 30, 107374182, 0, 8);
    }

    private static void signAt() {
        RootIsolator x = pair(row(-2, 0, 1), 0, 1);
        x.isolate(0);
        due("13: below", x.signAt(0), -1);
        due("13: above", x.signAt(1), 1);
        fill(x, 1, -2, 0, 1);
        due("13: B as it is now", x.signAt(0), 0);
        due("13: 0 at both", x.signAt(1), 0);
        fill(x, 1, 3);
        due("13: a constant", x.signAt(0), 1);
        fill(x, 1, -3);
        due("13: a constant below 0", x.signAt(1), -1);
        fill(x, 1);
        due("13: ZERO", x.signAt(1), 0);
        // 665857 / 470832 is above the root of 2 by 2^-40
        fill(x, 1, -665857, 470832);
        due("13: above by 2^-40", x.signAt(1), -1);
        fill(x, 1, -470832 * 2, 665857);
        due("13: below by 2^-40", x.signAt(1), 1);
        // (x^2 - 2) (x - 1) and (x^2 - 2) x
        fill(x, 0, 2, -2, -1, 1);
        fill(x, 1, 0, -2, 0, 1);
        x.isolate(0);
        due("13: shared root", x.signAt(0), 0);
        due("13: exact root", x.signAt(1), -1);
        due("13: shared root", x.signAt(2), 0);
        // 1 is the lower end of the cell of the root of 2 and a root of A itself
        fill(x, 1, -3, 2);
        due("13: B below 0 at the lower end and at the root", x.signAt(2), -1);
        fill(x, 1, -5, 4);
        due("13: B below 0 at the lower end, above it at the root", x.signAt(2), 1);
        fill(x, 1, 5, -4);
        due("13: B above 0 at the lower end, below it at the root", x.signAt(2), -1);
        fill(x, 1, 3, -2);
        due("13: B above 0 at both", x.signAt(2), 1);
        fill(x, 1, -1, 1);
        due("13: B is 0 at the lower end", x.signAt(2), 1);
        fill(x, 1, 1, -1);
        due("13: B is 0 at the lower end, turned", x.signAt(2), -1);
        x.derive();
        due("13: after derive", x.signAt(0), 1);
        due("13: after derive", x.signAt(1), -1);
        due("13: after derive", x.signAt(2), 1);
        noRoot("13", x, 3);
        noRoot("13", x, -1);
        // (x^2 - 2)^2: even multiplicity
        fill(x, 0, 4, 0, -4, 0, 1);
        fill(x, 1, 1, 1);
        x.isolate(0);
        due("13: twice, below", x.signAt(0), -1);
        due("13: twice, above", x.signAt(1), 1);
    }

    private static void common() {
        // (x^2 - 2) (x - 1)^2 and (x^2 - 2)^2 (x - 1)
        RootIsolator x = pair(row(-2, 4, -1, -2, 1), -4, 4, 4, -4, -1, 1);
        due("14: three", x.common(), 3);
        fill(x, 1, 1, 0, 1);
        due("14: none", x.common(), 0);
        // (x^2 + 1) (x - 1): what they share besides 1 is not real
        fill(x, 1, -1, 1, -1, 1);
        due("14: one", x.common(), 1);
        x.set(1, 0, 0);
        x.set(1, 1, 0);
        x.set(1, 2, 0);
        x.set(1, 3, 0);
        due("14: B is ZERO", x.common(), ZERO);
        x.swap();
        due("14: A is ZERO", x.common(), ZERO);
        fill(x, 1);
        due("14: both are", x.common(), ZERO);
        fill(x, 0, 5);
        fill(x, 1, 5);
        due("14: constants", x.common(), 0);
        fill(x, 0, -MOST, 0, 0, 0, 0, 0, 0, 0, MOST);
        fill(x, 1, MOST, 0, 0, 0, 0, 0, 0, 0, -MOST);
        due("14: the greatest numbers", x.common(), 2);
        x.isolate(3);
        x.common();
        x.divisor();
        root("14: what is isolated stays", x, 1, 3, 7, 1, 1);
    }

    private static void divisor() {
        // (x^2 - 2) (x - 1)^2 and (x^2 - 2)^2 (x - 1)
        RootIsolator x = pair(row(-2, 4, -1, -2, 1), -4, 4, 4, -4, -1, 1);
        due("15: three", x.divisor(), 3);
        fill(x, 1, -3, 3, -3, 3);
        due("15: one", x.divisor(), 1);
        fill(x, 1, 1, 0, 1);
        due("15: none", x.divisor(), 0);
        fill(x, 1);
        due("15: B is ZERO", x.divisor(), 4);
        x.swap();
        due("15: A is ZERO", x.divisor(), 4);
        fill(x, 1);
        due("15: both are", x.divisor(), ZERO);
        fill(x, 1, 5);
        due("15: a constant and ZERO", x.divisor(), 0);
        fill(x, 0, 10);
        due("15: two constants", x.divisor(), 0);
        fill(x, 0, -MOST, 0, 0, 0, 0, 0, 0, 0, MOST);
        fill(x, 1, 1, 0, 0, 0, 0, 0, 0, 0, -1);
        due("15: eight", x.divisor(), 8);
        fill(x, 1, -1, 0, 0, 0, 1);
        due("15: four", x.divisor(), 4);
    }

    private static void derive() {
        RootIsolator x = pair(row(9, 1, 2, 3, 4, 5, 6, 7, -125000000), 1, 1, 1, 1, 1, 1, 1, 1, 1);
        due("16: seven", x.derive(), 7);
        holds("16", x, 1, 1, 4, 9, 16, 25, 36, 49, -MOST);
        x.set(0, 8, -125000001);
        due("16: FULL", x.derive(), FULL);
        holds("16: nothing is done", x, 1, 1, 4, 9, 16, 25, 36, 49, -MOST);
        fill(x, 0, MOST, MOST);
        due("16: the greatest numbers", x.derive(), 0);
        holds("16", x, 1, MOST);
        fill(x, 0, 0, 0, 500000001);
        due("16: FULL by the second", x.derive(), FULL);
        fill(x, 0, MOST);
        due("16: of a constant", x.derive(), ZERO);
        holds("16", x, 1);
        fill(x, 1, 1, 2);
        fill(x, 0);
        due("16: of ZERO", x.derive(), ZERO);
        holds("16", x, 1);
        fill(x, 0, 0, 0, 0, 0, 0, 0, 0, 1);
        x.times(0);
        due("16: after times", x.derive(), 7);
        holds("16: after times", x, 1, 0, 0, 0, 0, 0, 0, 0, 8);
        fill(x, 0, -2, 0, 1);
        x.isolate(1);
        x.derive();
        root("16: A's roots stay", x, 1, 1, 2, 0, 1);
    }

    private static void times() {
        RootIsolator x = of(1);
        for (int r = 1; r <= 8; r++) {
            due("17: times(" + r + ")", x.times(r), r);
        }
        holds("17", x, 0, 40320, -109584, 118124, -67284, 22449, -4536, 546, -36, 1);
        x.isolate(0);
        due("17: its degree is 8", x.times(0), FULL);
        root("17: FULL leaves it", x, 7, 0, 7, 1, 1);
        fill(x, 0, 1, 1);
        x.isolate(0);
        due("17: FULL by a number", x.times(1000000001), FULL);
        due("17: FULL by the least int", x.times(Integer.MIN_VALUE), FULL);
        due("17: FULL by the greatest int", x.times(Integer.MAX_VALUE), FULL);
        due("17: FULL by the middle one", x.times(-MOST), FULL);
        holds("17: nothing is done", x, 0, 1, 1);
        root("17: FULL leaves it", x, 0, 0, -2, 1, 1);
        due("17: the greatest", x.times(MOST), 2);
        holds("17", x, 0, -MOST, 1 - MOST, 1);
        nothingIsolated("17", x);
        fill(x, 0);
        due("17: ZERO", x.times(5), ZERO);
        holds("17: ZERO", x, 0);
        fill(x, 0, 0, 0, 0, 0, 0, 0, 0, MOST);
        due("17: by x", x.times(0), 8);
        holds("17", x, 0, 0, 0, 0, 0, 0, 0, 0, 0, MOST);
        fill(x, 0, MOST, 2);
        due("17: FULL by what cancels too little", x.times(-1), FULL);
    }

    private static void shift() {
        RootIsolator x = of(0, 0, 0, 1);
        x.isolate(0);
        due("18: shift(2)", x.shift(2), 3);
        holds("18", x, 0, 8, 12, 6, 1);
        nothingIsolated("18", x);
        due("18: back", x.shift(-2), 3);
        holds("18", x, 0, 0, 0, 0, 1);
        x.isolate(0);
        due("18: shift(0)", x.shift(0), 3);
        nothingIsolated("18: shift(0)", x);
        x.isolate(0);
        due("18: FULL by one more than 1000", x.shift(1001), FULL);
        due("18: FULL", x.shift(Integer.MAX_VALUE), FULL);
        due("18: FULL", x.shift(Integer.MIN_VALUE), FULL);
        holds("18: nothing is done", x, 0, 0, 0, 0, 1);
        root("18: FULL leaves it", x, 0, 0, -1, 1, 3);
        // (x - 31622)^2 and back over numbers that are beyond on the way
        fill(x, 0, 31622 * 31622, -2 * 31622, 1);
        due("18: to the middle", x.shift(31622), 2);
        holds("18", x, 0, 0, 0, 1);
        fill(x, 0, -MOST, 1);
        due("18: to 0", x.shift(MOST), 1);
        holds("18", x, 0, 0, 1);
        fill(x, 0, -MOST, 1);
        due("18: to the other end", x.shift(2 * MOST), 1);
        holds("18", x, 0, MOST, 1);
        due("18: one beyond", x.shift(1), FULL);
        fill(x, 0, 0, 0, 0, 1);
        due("18: up to 1000000000", x.shift(1000), 3);
        holds("18", x, 0, MOST, 3000000, 3000, 1);
        fill(x, 0, 1, 0, 0, 0, 0, 0, 0, 0, 1);
        due("18: by 2^31, which the longs would lose", x.shift(Integer.MIN_VALUE), FULL);
        due("18: by 2^30, which the longs would lose", x.shift(1 << 30), FULL);
        fill(x, 0, 7);
        due("18: a constant", x.shift(Integer.MIN_VALUE), 0);
        holds("18", x, 0, 7);
        fill(x, 0);
        due("18: ZERO", x.shift(1), ZERO);
    }

    private static void swap() {
        RootIsolator x = pair(row(1, 2), 3, 4, 5);
        x.isolate(0);
        due("19: A's degree then", x.swap(), 2);
        holds("19", x, 0, 3, 4, 5);
        holds("19", x, 1, 1, 2);
        nothingIsolated("19", x);
        fill(x, 1);
        due("19: ZERO", x.swap(), ZERO);
        due("19: and back", x.swap(), 2);
        x.set(0, 0, 9);
        due("19: they stay apart", x.get(1, 0), 0);
        // What was counted before the swap must not be answered after it.
        fill(x, 0, -1, 0, 1);
        fill(x, 1, 1, 0, 1);
        due("19: roots", x.roots(0), 2);
        x.swap();
        due("19: roots after", x.roots(0), 0);
        due("19: roots of B after", x.roots(1), 2);
    }

    public static void main(String[] args) {
        newObject();
        set();
        get();
        degree();
        sign();
        between();
        roots();
        isolate();
        level();
        cell();
        exact();
        multiplicity();
        signAt();
        common();
        divisor();
        derive();
        times();
        shift();
        swap();
        end();
    }
}
