import java.math.BigInteger;
import java.util.ArrayList;
import java.util.Arrays;
import java.util.List;
import java.util.Random;

// Runs of calls on RootIsolator and on a second program that finds the answers by other means:
// Descartes' rule and halving for the roots, interval arithmetic for signs. The seeds are fixed.
public final class ReferenceTest {
    private static final int RUNS = 1500;
    private static final long MOST = 1000000000L;

    private static int wrong = 0;
    private static long asked = 0;

    // ---- polynomials of BigIntegers, least power first, without zeros above; ZERO has length 0

    static BigInteger[] trim(BigInteger[] p) {
        int n = p.length;
        while (n > 0 && p[n - 1].signum() == 0) {
            n--;
        }
        return Arrays.copyOf(p, n);
    }

    static BigInteger[] derivative(BigInteger[] p) {
        BigInteger[] d = new BigInteger[Math.max(0, p.length - 1)];
        for (int k = 0; k < d.length; k++) {
            d[k] = p[k + 1].multiply(BigInteger.valueOf(k + 1));
        }
        return trim(d);
    }

    static BigInteger[] product(BigInteger[] p, BigInteger[] q) {
        if (p.length == 0 || q.length == 0) {
            return new BigInteger[0];
        }
        BigInteger[] out = new BigInteger[p.length + q.length - 1];
        Arrays.fill(out, BigInteger.ZERO);
        for (int i = 0; i < p.length; i++) {
            for (int j = 0; j < q.length; j++) {
                out[i + j] = out[i + j].add(p[i].multiply(q[j]));
            }
        }
        return trim(out);
    }

    static BigInteger[] primitive(BigInteger[] p) {
        BigInteger content = BigInteger.ZERO;
        for (BigInteger c : p) {
            content = content.gcd(c);
        }
        BigInteger[] out = p.clone();
        for (int k = 0; k < p.length; k++) {
            out[k] = p[k].divide(content);
        }
        return out;
    }

    static BigInteger[] gcd(BigInteger[] p, BigInteger[] q) {
        BigInteger[] a = primitive(p);
        BigInteger[] b = primitive(q);
        while (b.length > 0) {
            BigInteger[] r = a;
            while (r.length >= b.length) {
                BigInteger[] next = new BigInteger[r.length];
                for (int k = 0; k < r.length; k++) {
                    int from = k - (r.length - b.length);
                    next[k] = r[k].multiply(b[b.length - 1]);
                    if (from >= 0) {
                        next[k] = next[k].subtract(r[r.length - 1].multiply(b[from]));
                    }
                }
                r = primitive(trim(next));
            }
            a = b;
            b = r;
        }
        return a;
    }

    static BigInteger[] quotient(BigInteger[] p, BigInteger[] q) {
        BigInteger[] rest = p.clone();
        BigInteger[] out = new BigInteger[p.length - q.length + 1];
        for (int k = out.length - 1; k >= 0; k--) {
            out[k] = rest[k + q.length - 1].divide(q[q.length - 1]);
            for (int j = 0; j < q.length; j++) {
                rest[k + j] = rest[k + j].subtract(out[k].multiply(q[j]));
            }
        }
        if (trim(rest).length != 0) {
            throw new IllegalStateException("the reference divided what does not divide");
        }
        return out;
    }

    static int signAt(BigInteger[] p, BigInteger n, int e) {
        BigInteger sum = BigInteger.ZERO;
        for (int k = p.length - 1; k >= 0; k--) {
            sum = sum.multiply(n).add(p[k].shiftLeft(e * (p.length - 1 - k)));
        }
        return sum.signum();
    }

    /** p at x + r. */
    static BigInteger[] moved(BigInteger[] p, BigInteger r) {
        BigInteger[] out = p.clone();
        for (int i = 0; i < out.length; i++) {
            for (int k = out.length - 2; k >= i; k--) {
                out[k] = out[k].add(out[k + 1].multiply(r));
            }
        }
        return out;
    }

    /** Changes of sign of p when the open interval (lo, hi) / 2^e is laid on the positive line. */
    static int descartes(BigInteger[] p, BigInteger lo, BigInteger hi, int e) {
        int d = p.length - 1;
        BigInteger[] q = p.clone();
        for (int k = 0; k <= d; k++) {
            q[k] = q[k].shiftLeft(e * (d - k));
        }
        q = moved(q, lo);
        BigInteger power = BigInteger.ONE;
        for (int k = 0; k <= d; k++) {
            q[k] = q[k].multiply(power);
            power = power.multiply(hi.subtract(lo));
        }
        BigInteger[] turned = new BigInteger[d + 1];
        for (int k = 0; k <= d; k++) {
            turned[k] = q[d - k];
        }
        turned = moved(turned, BigInteger.ONE);
        int changes = 0;
        int before = 0;
        for (BigInteger c : turned) {
            if (c.signum() != 0) {
                changes += before == -c.signum() ? 1 : 0;
                before = c.signum();
            }
        }
        return changes;
    }

    // ---- roots: a fraction lo / 2^e, or the only root in the open interval (lo, hi) / 2^e

    static final class Root {
        final BigInteger[] simple;
        BigInteger lo;
        BigInteger hi;
        int e;

        Root(BigInteger[] simple, BigInteger lo, BigInteger hi, int e) {
            this.simple = simple;
            this.lo = lo;
            this.hi = hi;
            this.e = e;
        }

        boolean isFraction() {
            return lo.equals(hi);
        }

        void refine() {
            BigInteger middle = lo.add(hi);
            int side = ReferenceTest.signAt(simple, middle, e + 1);
            boolean up = side == ReferenceTest.signAt(simple, lo, e);
            lo = side == 0 || up ? middle : lo.shiftLeft(1);
            hi = side == 0 || !up ? middle : hi.shiftLeft(1);
            e++;
        }

        /** -1, 0, 1: the root is below, at or above n / 2^f. */
        int against(BigInteger n, int f) {
            if (!isFraction() && ReferenceTest.signAt(simple, n, f) == 0) {
                if (n.shiftLeft(e).compareTo(lo.shiftLeft(f)) > 0 && n.shiftLeft(e).compareTo(hi.shiftLeft(f)) < 0) {
                    return 0;
                }
            }
            while (true) {
                int low = lo.shiftLeft(f).compareTo(n.shiftLeft(e));
                int high = hi.shiftLeft(f).compareTo(n.shiftLeft(e));
                if (isFraction()) {
                    return low;
                }
                if (low >= 0) {
                    return 1;
                }
                if (high <= 0) {
                    return -1;
                }
                refine();
            }
        }

        BigInteger cell(int s) {
            while (true) {
                BigInteger low = lo.shiftLeft(s).shiftRight(e);
                BigInteger high = hi.shiftLeft(s).negate().shiftRight(e).negate().subtract(BigInteger.ONE);
                if (isFraction() || low.equals(high)) {
                    return high;
                }
                refine();
            }
        }

        boolean isRootOf(BigInteger[] p) {
            if (p.length == 0) {
                return true;
            }
            BigInteger[] shared = gcd(simple, p);
            if (isFraction()) {
                return ReferenceTest.signAt(shared, lo, e) == 0;
            }
            return ReferenceTest.signAt(shared, lo, e) != ReferenceTest.signAt(shared, hi, e);
        }

        int sideOf(BigInteger[] p) {
            if (isRootOf(p)) {
                return 0;
            }
            while (true) {
                BigInteger least = BigInteger.ZERO;
                BigInteger most = BigInteger.ZERO;
                for (int k = p.length - 1; k >= 0; k--) {
                    BigInteger[] ends = {least.multiply(lo), least.multiply(hi), most.multiply(lo), most.multiply(hi)};
                    Arrays.sort(ends);
                    BigInteger c = p[k].shiftLeft(e * (p.length - 1 - k));
                    least = ends[0].add(c);
                    most = ends[3].add(c);
                }
                if (least.signum() > 0 || most.signum() < 0) {
                    return least.signum() > 0 ? 1 : -1;
                }
                refine();
            }
        }
    }

    static void search(BigInteger[] simple, BigInteger lo, BigInteger hi, int e, List<Root> into) {
        int changes = descartes(simple, lo, hi, e);
        if (changes == 0) {
            return;
        }
        if (changes == 1 && signAt(simple, lo, e) != 0 && signAt(simple, hi, e) != 0) {
            into.add(new Root(simple, lo, hi, e));
            return;
        }
        BigInteger middle = lo.add(hi);
        search(simple, lo.shiftLeft(1), middle, e + 1, into);
        if (signAt(simple, middle, e + 1) == 0) {
            into.add(new Root(simple, middle, middle, e + 1));
        }
        search(simple, middle, hi.shiftLeft(1), e + 1, into);
    }

    static List<Root> rootsOf(BigInteger[] p) {
        List<Root> out = new ArrayList<>();
        if (p.length > 1) {
            BigInteger[] whole = primitive(p);
            BigInteger bound = BigInteger.ONE.shiftLeft(31);
            search(quotient(whole, gcd(whole, derivative(whole))), bound.negate(), bound, 0, out);
        }
        return out;
    }

    // ---- the face once more

    static final class Reference {
        final long[][] rows = new long[2][9];
        List<Root> found = null;
        int[] levels = new int[8];
        BigInteger[] isolatedA;

        BigInteger[] poly(int which) {
            BigInteger[] p = new BigInteger[9];
            for (int k = 0; k <= 8; k++) {
                p[k] = BigInteger.valueOf(rows[which][k]);
            }
            return trim(p);
        }

        int degreeOf(BigInteger[] p) {
            return p.length == 0 ? -3 : p.length - 1;
        }

        boolean take(int which, BigInteger[] p) {
            for (BigInteger c : p) {
                if (c.abs().compareTo(BigInteger.valueOf(MOST)) > 0) {
                    return false;
                }
            }
            for (int k = 0; k <= 8; k++) {
                rows[which][k] = k < p.length ? p[k].longValueExact() : 0;
            }
            return true;
        }

        long set(int which, int power, int c) {
            if (which < 0 || which > 1 || power < 0 || power > 8 || Math.abs((long) c) > MOST) {
                return -2;
            }
            rows[which][power] = c;
            found = which == 0 ? null : found;
            return 0;
        }

        long get(int which, int power) {
            return which < 0 || which > 1 || power < 0 || power > 8 ? 0 : rows[which][power];
        }

        long degree(int which) {
            return which < 0 || which > 1 ? -2 : degreeOf(poly(which));
        }

        long sign(int which, long n, int e) {
            return which < 0 || which > 1 || e < 0 || e > 30 ? -2 : signAt(poly(which), n, e);
        }

        int signAt(BigInteger[] p, long n, int e) {
            return ReferenceTest.signAt(p, BigInteger.valueOf(n), e);
        }

        long between(int which, long n, int e, long m, int f) {
            if (which < 0 || which > 1 || e < 0 || e > 30 || f < 0 || f > 30) {
                return -2;
            }
            if (poly(which).length == 0) {
                return -3;
            }
            long count = 0;
            for (Root root : rootsOf(poly(which))) {
                boolean above = root.against(BigInteger.valueOf(n), e) > 0;
                count += above && root.against(BigInteger.valueOf(m), f) <= 0 ? 1 : 0;
            }
            return count;
        }

        long roots(int which) {
            if (which < 0 || which > 1) {
                return -2;
            }
            return poly(which).length == 0 ? -3 : rootsOf(poly(which)).size();
        }

        long isolate(int e) {
            if (e < 0 || e > 30) {
                return -2;
            }
            found = null;
            if (poly(0).length == 0) {
                return -3;
            }
            List<Root> roots = rootsOf(poly(0));
            for (int i = 0; i < roots.size(); i++) {
                levels[i] = -1;
                for (int s = e; s <= 30 && levels[i] < 0; s++) {
                    boolean alone = true;
                    for (int j = 0; j < roots.size(); j++) {
                        alone &= j == i || !roots.get(j).cell(s).equals(roots.get(i).cell(s));
                    }
                    levels[i] = alone ? s : -1;
                }
                if (levels[i] < 0) {
                    return -4;
                }
            }
            found = roots;
            return roots.size();
        }

        boolean has(int i) {
            return found != null && i >= 0 && i < found.size();
        }

        long level(int i) {
            return has(i) ? levels[i] : -1;
        }

        long cell(int i) {
            return has(i) ? found.get(i).cell(levels[i]).longValueExact() : 0;
        }

        long exact(int i) {
            return !has(i) ? -1 : signAt(poly(0), cell(i) + 1, levels[i]) == 0 ? 1 : 0;
        }

        long multiplicity(int i) {
            if (!has(i)) {
                return -1;
            }
            int many = 0;
            for (BigInteger[] p = poly(0); found.get(i).isRootOf(p); p = derivative(p)) {
                many++;
            }
            return many;
        }

        long signAt(int i) {
            return has(i) ? found.get(i).sideOf(poly(1)) : -9;
        }

        long common() {
            if (poly(0).length == 0 || poly(1).length == 0) {
                return -3;
            }
            long count = 0;
            for (Root root : rootsOf(poly(0))) {
                count += root.isRootOf(poly(1)) ? 1 : 0;
            }
            return count;
        }

        long divisor() {
            if (poly(0).length == 0 || poly(1).length == 0) {
                return degreeOf(poly(0).length == 0 ? poly(1) : poly(0));
            }
            return gcd(poly(0), poly(1)).length - 1;
        }

        long derive() {
            return take(1, derivative(poly(0))) ? degree(1) : -5;
        }

        long times(int r) {
            if (poly(0).length == 0) {
                return -3;
            }
            if (poly(0).length == 9) {
                return -5;
            }
            BigInteger[] factor = {BigInteger.valueOf(r).negate(), BigInteger.ONE};
            return changed(product(poly(0), factor));
        }

        long shift(int r) {
            return poly(0).length == 0 ? -3 : changed(moved(poly(0), BigInteger.valueOf(r)));
        }

        long changed(BigInteger[] p) {
            if (!take(0, p)) {
                return -5;
            }
            found = null;
            return degree(0);
        }

        long swap() {
            long[] kept = rows[0];
            rows[0] = rows[1];
            rows[1] = kept;
            found = null;
            return degree(0);
        }
    }

    // ---- the runs

    private final Random random;
    private final int run;
    private final RootIsolator mine = new RootIsolator();
    private final Reference due = new Reference();
    private final StringBuilder calls = new StringBuilder();
    private int made = 0;
    private List<BigInteger[]> factors = new ArrayList<>();

    private ReferenceTest(int run) {
        this.run = run;
        this.random = new Random(7919L * run + 1);
    }

    private void same(String call, long got, long want) {
        asked++;
        made++;
        calls.append(call).append("; ");
        if (got != want) {
            wrong++;
            if (wrong <= 20) {
                System.out.println("run " + run + ": " + calls + " answered " + got + ", due is " + want);
            }
        }
    }

    private static BigInteger[] poly(long... row) {
        BigInteger[] p = new BigInteger[row.length];
        for (int k = 0; k < row.length; k++) {
            p[k] = BigInteger.valueOf(row[k]);
        }
        return trim(p);
    }

    private int upTo(int most) {
        return random.nextInt(2 * most + 1) - most;
    }

    private BigInteger[] factor() {
        switch (random.nextInt(7)) {
            case 0:
                return poly(upTo(4), 1);
            case 1:
                return poly(upTo(40), 1 << random.nextInt(10));
            case 2:
                return poly(upTo(50), 1 + random.nextInt(50));
            case 3:
                return poly(-1 - random.nextInt(9), 0, 1 + random.nextInt(3));
            case 4:
                return poly(upTo(9), upTo(9), 1);
            case 5:
                return poly(upTo(5), upTo(5), upTo(5), 1 + random.nextInt(2));
            default:
                return poly(upTo(31000), 20000 + random.nextInt(11000));
        }
    }

    private BigInteger[] fromFactors() {
        BigInteger[] p = poly(random.nextInt(4) == 0 ? upTo(20) : random.nextBoolean() ? 1 : -1);
        for (int round = 1 + random.nextInt(8); round > 0; round--) {
            BigInteger[] q = product(p, factors.get(random.nextInt(factors.size())));
            p = fits(q) ? q : p;
        }
        return p;
    }

    private BigInteger[] nearRoots() {
        int a = 2 + random.nextInt(random.nextBoolean() ? 22000 : 60);
        BigInteger[] p = product(poly(-1, a), poly(-1, a));
        BigInteger[] out = new BigInteger[9];
        Arrays.fill(out, BigInteger.ZERO);
        for (int k = 0; k < p.length; k++) {
            out[k] = p[k].multiply(BigInteger.valueOf(-2));
        }
        out[3 + random.nextInt(6)] = BigInteger.valueOf(1 + random.nextInt(3));
        return trim(out);
    }

    private static boolean fits(BigInteger[] p) {
        boolean fits = p.length <= 9;
        for (BigInteger c : p) {
            fits &= c.abs().compareTo(BigInteger.valueOf(MOST)) <= 0;
        }
        return fits;
    }

    private BigInteger[] smallPoly(int degree) {
        long[] row = new long[degree + 1];
        for (int k = 0; k < degree; k++) {
            row[k] = random.nextBoolean() ? 0 : upTo(4);
        }
        row[degree] = random.nextBoolean() ? 1 + random.nextInt(7) : -1 - random.nextInt(7);
        return poly(row);
    }

    private static BigInteger[] withGaps(int place) {
        return poly(Arrays.stream(Checks.WITH_GAPS[place % Checks.WITH_GAPS.length]).asLongStream().toArray());
    }

    /** Two polynomials whose remainders, down to a factor that both have, fall by several degrees at once. */
    private void fillWithGaps() {
        BigInteger[] lower = factors.get(random.nextInt(factors.size()));
        BigInteger[] upper = product(lower, smallPoly(random.nextInt(3)));
        for (int round = 0; round < 8; round++) {
            BigInteger[] next = product(upper, smallPoly(random.nextInt(4)));
            BigInteger[] rest = product(lower, smallPoly(0));
            for (int k = 0; k < rest.length; k++) {
                next[k] = next[k].add(rest[k]);
            }
            if (!fits(next) || next[next.length - 1].signum() == 0) {
                break;
            }
            lower = upper;
            upper = next;
        }
        boolean turned = random.nextBoolean();
        fill(0, trim(turned ? lower : upper));
        fill(1, trim(turned ? upper : lower));
    }

    private BigInteger[] anyPoly() {
        int kind = random.nextInt(12);
        int degree = random.nextInt(9);
        long[] row = new long[9];
        if (kind == 0) {
            return nearRoots();
        }
        if (kind > 4) {
            return fromFactors();
        }
        for (int k = 0; k <= degree; k++) {
            if (kind == 1) {
                row[k] = upTo(3);
            } else if (kind == 2) {
                row[k] = upTo((int) MOST);
            } else if (kind == 3) {
                row[k] = random.nextBoolean() ? 0 : random.nextBoolean() ? upTo(2) : MOST * upTo(1);
            } else {
                row[k] = MOST * upTo(1) + upTo(1) * (long) random.nextInt(3) * -1;
                row[k] = Math.max(-MOST, Math.min(MOST, row[k]));
            }
        }
        return poly(row);
    }

    private void fill(int which, BigInteger[] p) {
        for (int k = 0; k <= 8; k++) {
            int c = k < p.length ? p[k].intValueExact() : 0;
            if (c != due.rows[which][k]) {
                same("set(" + which + ", " + k + ", " + c + ")", mine.set(which, k, c), due.set(which, k, c));
            }
        }
    }

    private int someWhich() {
        return random.nextInt(20) == 0 ? upTo(3) : random.nextInt(2);
    }

    private int someLevel() {
        return random.nextInt(30) == 0 ? upTo(40) : random.nextInt(3) == 0 ? random.nextInt(31) : random.nextInt(4);
    }

    private long someN(int e) {
        switch (random.nextInt(6)) {
            case 0:
                return random.nextLong();
            case 1:
                return random.nextBoolean() ? Long.MIN_VALUE : Long.MAX_VALUE;
            case 2:
                return (long) upTo(5) << Math.max(0, Math.min(30, e));
            case 3:
                return upTo(5);
            default:
                int i = random.nextInt(8);
                if (!due.has(i)) {
                    return (long) upTo(50);
                }
                int up = e - due.levels[i];
                long m = due.cell(i) + random.nextInt(3);
                return up >= 0 && up <= 30 ? m << up : up < 0 && up >= -30 ? m >> -up : m;
        }
    }

    private int someR() {
        return random.nextInt(8) == 0 ? random.nextInt() : random.nextInt(4) == 0 ? upTo(31623) : upTo(5);
    }

    private void askRoots() {
        int e = someLevel();
        same("isolate(" + e + ")", mine.isolate(e), due.isolate(e));
        for (int i = -1; i <= (due.found == null ? 0 : due.found.size()); i++) {
            same("level(" + i + ")", mine.level(i), due.level(i));
            same("cell(" + i + ")", mine.cell(i), due.cell(i));
            same("exact(" + i + ")", mine.exact(i), due.exact(i));
            same("multiplicity(" + i + ")", mine.multiplicity(i), due.multiplicity(i));
            same("signAt(" + i + ")", mine.signAt(i), due.signAt(i));
        }
    }

    private void call() {
        int which = someWhich();
        int power = random.nextInt(20) == 0 ? upTo(12) : random.nextInt(9);
        int e = someLevel();
        int f = someLevel();
        long n = someN(e);
        long m = someN(f);
        int r = someR();
        int i = random.nextInt(9) - 1;
        switch (random.nextInt(20)) {
            case 0:
                int c = random.nextInt(4) == 0 ? random.nextInt() : upTo(9);
                same("set(" + which + ", " + power + ", " + c + ")", mine.set(which, power, c), due.set(which, power, c));
                return;
            case 1:
                same("get(" + which + ", " + power + ")", mine.get(which, power), due.get(which, power));
                return;
            case 2:
                same("degree(" + which + ")", mine.degree(which), due.degree(which));
                return;
            case 3:
            case 4:
                same("sign(" + which + ", " + n + ", " + e + ")", mine.sign(which, n, e), due.sign(which, n, e));
                return;
            case 5:
            case 6:
            case 7:
                same("between(" + which + ", " + n + ", " + e + ", " + m + ", " + f + ")",
                    mine.between(which, n, e, m, f), due.between(which, n, e, m, f));
                return;
            case 8:
                same("roots(" + which + ")", mine.roots(which), due.roots(which));
                return;
            case 9:
            case 10:
                askRoots();
                return;
            case 11:
            case 12:
                same("signAt(" + i + ")", mine.signAt(i), due.signAt(i));
                return;
            case 13:
                same("common()", mine.common(), due.common());
                return;
            case 14:
                same("divisor()", mine.divisor(), due.divisor());
                return;
            case 15:
                same("derive()", mine.derive(), due.derive());
                return;
            case 16:
                same("times(" + r + ")", mine.times(r), due.times(r));
                return;
            case 17:
                same("shift(" + r + ")", mine.shift(r), due.shift(r));
                return;
            case 18:
                same("swap()", mine.swap(), due.swap());
                return;
            default:
                fill(random.nextInt(3) == 0 ? 0 : 1, anyPoly());
        }
    }

    private void play() {
        for (int k = 0; k < 4; k++) {
            factors.add(factor());
        }
        if (run % 4 == 0) {
            fillWithGaps();
        } else if (run % 4 == 2 && run % 3 == 0) {
            fill(0, withGaps(run / 12 * 2));
            fill(1, withGaps(run / 12 * 2 + 1));
        } else {
            fill(0, anyPoly());
            fill(1, anyPoly());
        }
        same("common()", mine.common(), due.common());
        same("divisor()", mine.divisor(), due.divisor());
        askRoots();
        // What comes behind the last of these adds at most 69 calls, so none is the object's 513th.
        int most = run % 10 == 5 ? 440 : 120;
        while (made < most) {
            call();
        }
        for (int which = 0; which <= 1; which++) {
            for (int power = 0; power <= 8; power++) {
                same("get(" + which + ", " + power + ")", mine.get(which, power), due.get(which, power));
            }
        }
    }

    public static void main(String[] args) {
        int runs = args.length > 0 ? Integer.parseInt(args[0]) : RUNS;
        int first = args.length > 1 ? Integer.parseInt(args[1]) : 0;
        for (int run = first; run < first + runs; run++) {
            new ReferenceTest(run).play();
        }
        System.out.println(asked + " answers looked at, " + wrong + " wrong");
        if (wrong != 0) {
            System.exit(1);
        }
    }
}
