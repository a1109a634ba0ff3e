/**
 * Real roots of two polynomials A and B with whole coefficients, exactly.
 *
 * <p>Roots are counted by chains of signed remainders (Sturm); all arithmetic is on whole numbers
 * without a bound, so nothing is ever rounded.
 */
public final class RootIsolator {
    public static final int NONE = -1, BAD = -2, ZERO = -3, TIGHT = -4, FULL = -5;

    private static final int LAST_POWER = 8;
    private static final int LAST_LEVEL = 30;
    private static final int LIMIT = 1000000000;
    private static final int NO_SIGN = -9;

    // Halvings that no search needs: its width is below 2 to the power 62.
    private static final int HALVINGS = 64;

    // What the chain holds, so that calls in a row on the same polynomials build it once.
    private static final int NOTHING = -1;
    private static final int ROOTS_OF_A = 0;
    private static final int ROOTS_OF_B = 1;
    private static final int SIGNS_OF_B = 2;

    private int[] a = new int[LAST_POWER + 1];
    private int[] b = new int[LAST_POWER + 1];

    // How many roots are isolated; NONE while nothing is.
    private int found = NONE;
    private final int[] levels = new int[LAST_POWER];
    private final long[] cells = new long[LAST_POWER];
    private final int[] ends = new int[LAST_POWER];
    private final int[] repeats = new int[LAST_POWER];

    private final Chain chain = new Chain();
    private int held = NOTHING;
    private final Point point = new Point();
    private final Poly plain = new Poly(LAST_POWER + 1);
    private final long[] fresh = new long[LAST_POWER + 1];
    private final long[] lows = new long[LAST_POWER];
    private final long[] highs = new long[LAST_POWER];

    public RootIsolator() {
    }

    public int set(int which, int power, int c) {
        if (!isPolynomial(which) || !isPower(power) || !isNumber(c)) {
            return BAD;
        }
        chosen(which)[power] = c;
        held = NOTHING;
        if (which == 0) {
            found = NONE;
        }
        return 0;
    }

    public int get(int which, int power) {
        return isPolynomial(which) && isPower(power) ? chosen(which)[power] : 0;
    }

    public int degree(int which) {
        return isPolynomial(which) ? topPower(chosen(which)) : BAD;
    }

    public int sign(int which, long n, int e) {
        return isPolynomial(which) && isLevel(e) ? sideOf(chosen(which), n, e) : BAD;
    }

    public int between(int which, long n, int e, long m, int f) {
        if (!isPolynomial(which) || !isLevel(e) || !isLevel(f)) {
            return BAD;
        }
        if (topPower(chosen(which)) == ZERO) {
            return ZERO;
        }
        if (!isBelow(n, e, m, f)) {
            return 0;
        }
        hold(which == 0 ? ROOTS_OF_A : ROOTS_OF_B);
        return rootsUpTo(m, f) - rootsUpTo(n, e);
    }

    public int roots(int which) {
        if (!isPolynomial(which)) {
            return BAD;
        }
        if (topPower(chosen(which)) == ZERO) {
            return ZERO;
        }
        hold(which == 0 ? ROOTS_OF_A : ROOTS_OF_B);
        return chain.allRoots();
    }

    public int isolate(int e) {
        if (!isLevel(e)) {
            return BAD;
        }
        found = NONE;
        if (topPower(a) == ZERO) {
            return ZERO;
        }
        hold(ROOTS_OF_A);
        int count = Math.min(chain.allRoots(), LAST_POWER);
        findCells(count, e);
        if (!separate(count, e)) {
            return TIGHT;
        }
        markEnds(count);
        countRepeats(count);
        found = count;
        return count;
    }

    public int level(int i) {
        return isFound(i) ? levels[i] : NONE;
    }

    public long cell(int i) {
        return isFound(i) ? cells[i] : 0;
    }

    public int exact(int i) {
        return isFound(i) ? ends[i] : NONE;
    }

    public int multiplicity(int i) {
        return isFound(i) ? repeats[i] : NONE;
    }

    public int signAt(int i) {
        if (!isFound(i)) {
            return NO_SIGN;
        }
        long low = cells[i];
        int e = levels[i];
        // A constant B has the same sign everywhere, and the chain below wants a B with an x in it.
        if (ends[i] == 1 || topPower(b) <= 0) {
            return sideOf(b, low + 1, e);
        }
        hold(SIGNS_OF_B);
        point.moveTo(low, e);
        int changes = chain.changesAt(point, 1);
        // Another root of A on the lower end must not be counted: the changes just above it are due.
        if (sideOf(a, low, e) == 0 && sideOf(b, low, e) < 0) {
            changes++;
        }
        point.moveTo(low + 1, e);
        return changes - chain.changesAt(point, 1);
    }

    public int common() {
        if (topPower(a) == ZERO || topPower(b) == ZERO) {
            return ZERO;
        }
        held = NOTHING;
        chain.startPair(a, b);
        if (chain.lastTop() <= 0) {
            return 0;
        }
        chain.startLast();
        return chain.allRoots();
    }

    public int divisor() {
        int topA = topPower(a);
        int topB = topPower(b);
        if (topA == ZERO || topB == ZERO) {
            return topA == ZERO ? topB : topA;
        }
        held = NOTHING;
        chain.startPair(a, b);
        return chain.lastTop();
    }

    public int derive() {
        for (int k = 1; k <= LAST_POWER; k++) {
            fresh[k - 1] = (long) k * a[k];
        }
        fresh[LAST_POWER] = 0;
        if (!take(fresh, b)) {
            return FULL;
        }
        held = NOTHING;
        return topPower(b);
    }

    public int times(int r) {
        int top = topPower(a);
        if (top == ZERO) {
            return ZERO;
        }
        if (top >= LAST_POWER) {
            return FULL;
        }
        for (int k = 0; k <= LAST_POWER; k++) {
            fresh[k] = (k > 0 ? a[k - 1] : 0) - (long) r * a[k];
        }
        return replaceA();
    }

    public int shift(int r) {
        if (topPower(a) == ZERO) {
            return ZERO;
        }
        plain.load(a);
        point.moveTo(r, 0);
        for (int k = 0; k <= LAST_POWER; k++) {
            Whole number = point.taylor(plain, k);
            if (!number.isShort()) {
                return FULL;
            }
            fresh[k] = number.lowPart();
        }
        return replaceA();
    }

    public int swap() {
        int[] kept = a;
        a = b;
        b = kept;
        held = NOTHING;
        found = NONE;
        return topPower(a);
    }

    private static boolean isPolynomial(int which) {
        return which == 0 || which == 1;
    }

    private static boolean isPower(int power) {
        return power >= 0 && power <= LAST_POWER;
    }

    private static boolean isLevel(int e) {
        return e >= 0 && e <= LAST_LEVEL;
    }

    private static boolean isNumber(long c) {
        return c >= -LIMIT && c <= LIMIT;
    }

    private boolean isFound(int i) {
        return i >= 0 && i < found && i < LAST_POWER;
    }

    private int[] chosen(int which) {
        return which == 0 ? a : b;
    }

    private static int topPower(int[] row) {
        for (int k = row.length - 1; k >= 0; k--) {
            if (row[k] != 0) {
                return k;
            }
        }
        return ZERO;
    }

    /** Whether n / 2^e is below m / 2^f, without ever leaving the longs. */
    private static boolean isBelow(long n, int e, long m, int f) {
        if (e <= f) {
            return n < m >> (f - e) || n == m >> (f - e) && n << (f - e) != m;
        }
        return n >> (e - f) < m;
    }

    /** Copies the numbers into a polynomial, unless one of them is too great. */
    private static boolean take(long[] numbers, int[] row) {
        for (int k = 0; k < numbers.length; k++) {
            if (!isNumber(numbers[k])) {
                return false;
            }
        }
        for (int k = 0; k < numbers.length && k < row.length; k++) {
            row[k] = (int) numbers[k];
        }
        return true;
    }

    private int replaceA() {
        if (!take(fresh, a)) {
            return FULL;
        }
        held = NOTHING;
        found = NONE;
        return topPower(a);
    }

    private int sideOf(int[] row, long n, int e) {
        plain.load(row);
        point.moveTo(n, e);
        return point.taylor(plain, 0).side;
    }

    private void hold(int what) {
        if (held == what) {
            return;
        }
        if (what == SIGNS_OF_B) {
            chain.startSigns(a, b);
        } else {
            chain.startRoots(what == ROOTS_OF_A ? a : b);
        }
        held = what;
    }

    private int rootsUpTo(long n, int e) {
        point.moveTo(n, e);
        return chain.changesBelowAll() - chain.changesAt(point, 0);
    }

    /** A whole number that is above every root of A and whose opposite is below every one (Cauchy). */
    private long bound() {
        int top = topPower(a);
        long lead = top < 0 ? 0 : Math.abs(a[top]);
        long most = 0;
        for (int k = 0; k < top; k++) {
            most = Math.max(most, Math.abs(a[k]));
        }
        return lead == 0 ? LIMIT : most / lead + 2;
    }

    /**
     * The cells of all roots at level e. Root i is above lows[i] and not above highs[i], and each
     * count brings the bounds of all roots nearer, until root i has its own part of the line.
     */
    private void findCells(int count, int e) {
        long most = bound() << e;
        for (int i = 0; i < count; i++) {
            lows[i] = -most;
            highs[i] = most;
        }
        for (int i = 0; i < count; i++) {
            for (int step = 0; step < HALVINGS && highs[i] - lows[i] > 1 && !isApart(i, count); step++) {
                long middle = lows[i] + highs[i] >> 1;
                part(middle, rootsUpTo(middle, e), count);
            }
            cells[i] = isApart(i, count) ? narrow(lows[i], highs[i], e) : lows[i];
        }
    }

    private boolean isApart(int i, int count) {
        return (i == 0 || highs[i - 1] <= lows[i]) && (i + 1 >= count || highs[i] <= lows[i + 1]);
    }

    /** As many roots as upTo are not above the middle. */
    private void part(long middle, int upTo, int count) {
        for (int i = 0; i < count; i++) {
            if (i < upTo) {
                highs[i] = Math.min(highs[i], middle);
            } else {
                lows[i] = Math.max(lows[i], middle);
            }
        }
    }

    /** The cell of the only root above low and not above high: one sign a step, not a whole chain's. */
    private long narrow(long low, long high, int e) {
        int sideOfHigh = simpleSide(high, e);
        if (sideOfHigh == 0) {
            return high - 1;
        }
        for (int step = 0; step < HALVINGS && high - low > 1; step++) {
            long middle = low + high >> 1;
            int side = simpleSide(middle, e);
            if (side == 0) {
                return middle - 1;
            }
            if (side == sideOfHigh) {
                high = middle;
            } else {
                low = middle;
            }
        }
        return low;
    }

    /** The sign of A without its repeated factors: at a root of any multiplicity it changes. */
    private int simpleSide(long n, int e) {
        point.moveTo(n, e);
        int side = point.taylor(chain.first(), 0).side;
        return side == 0 ? 0 : side * point.taylor(chain.last(), 0).side;
    }

    /** Goes from level e on until no two roots share a cell; false if some still do at the last. */
    private boolean separate(int count, int e) {
        for (int i = 0; i < count; i++) {
            levels[i] = NONE;
        }
        for (int s = e; s <= LAST_LEVEL; s++) {
            int shared = 0;
            for (int i = 0; i < count; i++) {
                if (levels[i] == NONE && isAlone(i, count)) {
                    levels[i] = s;
                }
                if (levels[i] == NONE) {
                    shared++;
                }
            }
            if (shared == 0) {
                return true;
            }
            for (int i = 0; i < count && s < LAST_LEVEL; i++) {
                if (levels[i] == NONE) {
                    long half = 2 * cells[i] + 1;
                    cells[i] = rootsUpTo(half, s + 1) > i ? half - 1 : half;
                }
            }
        }
        return false;
    }

    /** Roots that have a level already are in other cells; those that have none are all at one level. */
    private boolean isAlone(int i, int count) {
        boolean withLower = i > 0 && levels[i - 1] == NONE && cells[i - 1] == cells[i];
        boolean withUpper = i + 1 < count && levels[i + 1] == NONE && cells[i + 1] == cells[i];
        return !withLower && !withUpper;
    }

    private void markEnds(int count) {
        for (int i = 0; i < count; i++) {
            ends[i] = sideOf(a, cells[i] + 1, levels[i]) == 0 ? 1 : 0;
        }
    }

    /** What A and its derivative share has each root once less often: so again and again. */
    private void countRepeats(int count) {
        for (int i = 0; i < count; i++) {
            repeats[i] = 1;
        }
        for (int round = 0; round < LAST_POWER && chain.lastTop() > 0; round++) {
            held = NOTHING;
            chain.startLast();
            for (int i = 0; i < count; i++) {
                if (rootsUpTo(cells[i] + 1, levels[i]) > rootsUpTo(cells[i], levels[i])) {
                    repeats[i]++;
                }
            }
        }
    }

    /** A whole number without a bound, changed in place so that its row is used again and again. */
    private static final class Whole {
        private static final int BITS = 30;
        private static final int MASK = (1 << BITS) - 1;

        // The magnitude, least limb first; the uppermost of size limbs is not 0.
        private int[] limbs = new int[4];
        private int size = 0;
        private int side = 0;

        void put(long value) {
            side = value > 0 ? 1 : value < 0 ? -1 : 0;
            // The least long is its own opposite, and read without a sign it is the right magnitude.
            long left = value < 0 ? -value : value;
            size = 0;
            for (int k = 0; left != 0 && k < limbs.length; k++) {
                limbs[k] = (int) (left & MASK);
                left >>>= BITS;
                size = k + 1;
            }
        }

        void copy(Whole other) {
            makeRoom(other.size);
            System.arraycopy(other.limbs, 0, limbs, 0, other.size);
            size = other.size;
            side = other.side;
        }

        void negate() {
            side = -side;
        }

        void dropSign() {
            side = side == 0 ? 0 : 1;
        }

        /** Whether one limb holds it; what needs more is beyond LIMIT. */
        boolean isShort() {
            return size <= 1;
        }

        int lowPart() {
            return size == 0 ? 0 : side * limbs[0];
        }

        private void makeRoom(int length) {
            if (length <= limbs.length) {
                return;
            }
            int[] wider = new int[length > 2 * limbs.length ? length : 2 * limbs.length];
            System.arraycopy(limbs, 0, wider, 0, limbs.length);
            limbs = wider;
        }

        private void trim(int length) {
            size = length;
            while (size > 0 && limbs[size - 1] == 0) {
                size--;
            }
            if (size == 0) {
                side = 0;
            }
        }

        /** Adds another number, or its opposite if asSide is -1. */
        void add(Whole other, int asSide) {
            int otherSide = asSide < 0 ? -other.side : other.side;
            if (otherSide == 0) {
                return;
            }
            if (side == 0) {
                side = otherSide;
            }
            int longest = size > other.size ? size : other.size;
            makeRoom(longest + 1);
            if (side == otherSide) {
                addMagnitude(other);
                trim(longest + 1);
                return;
            }
            if (isSmaller(other)) {
                takeFrom(other.limbs, other.size, limbs, size);
                side = otherSide;
            } else {
                takeFrom(limbs, size, other.limbs, other.size);
            }
            trim(longest);
        }

        private boolean isSmaller(Whole other) {
            if (size != other.size) {
                return size < other.size;
            }
            for (int k = size - 1; k >= 0; k--) {
                if (limbs[k] != other.limbs[k]) {
                    return limbs[k] < other.limbs[k];
                }
            }
            return false;
        }

        private void addMagnitude(Whole other) {
            int longest = size > other.size ? size : other.size;
            int carry = 0;
            for (int k = 0; k < longest; k++) {
                int sum = (k < size ? limbs[k] : 0) + (k < other.size ? other.limbs[k] : 0) + carry;
                limbs[k] = sum & MASK;
                carry = sum >>> BITS;
            }
            limbs[longest] = carry;
        }

        /** Leaves the greater magnitude less the smaller one here; one of the two is this number's. */
        private void takeFrom(int[] great, int greatSize, int[] small, int smallSize) {
            int borrow = 0;
            for (int k = 0; k < greatSize; k++) {
                int rest = great[k] - (k < smallSize ? small[k] : 0) - borrow;
                limbs[k] = rest & MASK;
                borrow = rest < 0 ? 1 : 0;
            }
        }

        /** The other number is another object: this one's limbs are overwritten from the upper end on. */
        void multiply(Whole other) {
            if (side == 0 || other.side == 0) {
                trim(0);
                return;
            }
            int length = size + other.size;
            makeRoom(length);
            for (int k = size; k < length; k++) {
                limbs[k] = 0;
            }
            for (int i = size - 1; i >= 0; i--) {
                long limb = limbs[i];
                limbs[i] = 0;
                long carry = 0;
                for (int j = 0; j < other.size; j++) {
                    long sum = limbs[i + j] + limb * other.limbs[j] + carry;
                    limbs[i + j] = (int) (sum & MASK);
                    carry = sum >>> BITS;
                }
                for (int k = i + other.size; carry != 0 && k < length; k++) {
                    long sum = limbs[k] + carry;
                    limbs[k] = (int) (sum & MASK);
                    carry = sum >>> BITS;
                }
            }
            side *= other.side;
            trim(length);
        }

        void shiftUp(int bits) {
            if (side == 0 || bits <= 0) {
                return;
            }
            int whole = bits / BITS;
            int part = bits % BITS;
            int length = size + whole + 1;
            makeRoom(length);
            for (int k = length - 1; k >= 0; k--) {
                int from = k - whole;
                int upper = from >= 0 && from < size ? limbs[from] : 0;
                int lower = from >= 1 && from <= size ? limbs[from - 1] : 0;
                limbs[k] = (upper << part | lower >>> BITS - part) & MASK;
            }
            trim(length);
        }

        void shiftDown(int bits) {
            if (side == 0 || bits <= 0) {
                return;
            }
            int whole = bits / BITS;
            int part = bits % BITS;
            for (int k = 0; k < size; k++) {
                int from = k + whole;
                int lower = from < size ? limbs[from] : 0;
                int upper = from + 1 < size ? limbs[from + 1] : 0;
                limbs[k] = (lower >>> part | upper << BITS - part) & MASK;
            }
            trim(size);
        }

        /** Halves until the number is odd: how often. */
        int makeOdd() {
            int bits = 0;
            while (bits < size * BITS && (limbs[bits / BITS] >> bits % BITS & 1) == 0) {
                bits++;
            }
            shiftDown(bits);
            return bits;
        }

        /**
         * Divides by an odd number that is known to divide this one. So the quotient can be read from
         * the lower end, where each limb is certain at once.
         */
        void divideByOdd(Whole odd) {
            int length = size - odd.size + 1;
            if (side == 0 || odd.side == 0 || length <= 0) {
                trim(0);
                return;
            }
            int inverse = inverseOf(odd.limbs[0]);
            for (int i = 0; i < length; i++) {
                int quotient = limbs[i] * inverse & MASK;
                long borrow = 0;
                for (int j = 0; j < odd.size && i + j < length; j++) {
                    long rest = limbs[i + j] - (long) quotient * odd.limbs[j] - borrow;
                    limbs[i + j] = (int) (rest & MASK);
                    borrow = -(rest >> BITS);
                }
                for (int k = i + odd.size; borrow != 0 && k < length; k++) {
                    long rest = limbs[k] - borrow;
                    limbs[k] = (int) (rest & MASK);
                    borrow = -(rest >> BITS);
                }
                limbs[i] = quotient;
            }
            side *= odd.side;
            trim(length);
        }

        /** The inverse modulo 2^32: an odd number is its own modulo 8, and each step doubles the bits. */
        private static int inverseOf(int odd) {
            int inverse = odd;
            for (int step = 0; step < 4; step++) {
                inverse *= 2 - odd * inverse;
            }
            return inverse;
        }
    }

    /** A polynomial with coefficients without a bound. */
    private static final class Poly {
        private final Whole[] parts;
        // Its degree; -1 if it is zero.
        private int top = -1;

        Poly(int length) {
            parts = new Whole[length];
            for (int k = 0; k < length; k++) {
                parts[k] = new Whole();
            }
        }

        void load(int[] row) {
            clear();
            for (int k = 0; k < row.length && k < parts.length; k++) {
                parts[k].put(row[k]);
            }
            findTop();
        }

        void clear() {
            for (int k = 0; k < parts.length; k++) {
                parts[k].put(0);
            }
            top = -1;
        }

        void copy(Poly other) {
            clear();
            for (int k = 0; k <= other.top && k < parts.length; k++) {
                parts[k].copy(other.parts[k]);
            }
            findTop();
        }

        void loadDerivative(Poly other, Whole factor) {
            clear();
            for (int k = 1; k <= other.top && k <= parts.length; k++) {
                factor.put(k);
                parts[k - 1].copy(other.parts[k]);
                parts[k - 1].multiply(factor);
            }
            findTop();
        }

        void findTop() {
            top = parts.length - 1;
            while (top >= 0 && parts[top].side == 0) {
                top--;
            }
        }
    }

    /** A fraction n / 2^e at which polynomials are looked at. */
    private static final class Point {
        private final Whole numerator = new Whole();
        private int exponent = 0;
        private final Whole sum = new Whole();
        private final Whole term = new Whole();
        private final Whole factor = new Whole();

        void moveTo(long n, int e) {
            numerator.put(n);
            exponent = e;
        }

        /**
         * The coefficient of that order if the polynomial is written in powers of x less this point,
         * times a power of two that makes it whole; at a whole point that power is 1.
         */
        Whole taylor(Poly poly, int order) {
            sum.put(0);
            for (int k = poly.top; k >= order && k >= 0; k--) {
                sum.multiply(numerator);
                term.copy(poly.parts[k]);
                if (order > 0) {
                    factor.put(choose(k, order));
                    term.multiply(factor);
                }
                term.shiftUp(exponent * (poly.top - k));
                sum.add(term, 1);
            }
            return sum;
        }

        private static long choose(int k, int order) {
            long ways = 1;
            for (int i = 0; i < order; i++) {
                ways = ways * (k - i) / (i + 1);
            }
            return ways;
        }
    }

    /**
     * A chain of polynomials, each the remainder of the two before it with its sign turned, up to
     * positive factors; the last one is what the first two have in common.
     */
    private static final class Chain {
        // The second row goes up to x^8, and from there on the degree falls with every row.
        private static final int ROWS = LAST_POWER + 2;
        // The first row goes up to x^15, as the derivative of A times B does.
        private static final int WIDEST = 2 * LAST_POWER;

        private final Poly[] rows = new Poly[ROWS];
        private int used = 0;
        private final Poly rest = new Poly(WIDEST);
        private final Whole gauge = new Whole();
        private final Whole height = new Whole();
        private final Whole divider = new Whole();
        private final Whole under = new Whole();
        private final Whole scale = new Whole();
        private final Whole upper = new Whole();
        private final Whole term = new Whole();

        Chain() {
            for (int k = 0; k < ROWS; k++) {
                rows[k] = new Poly(k == 0 ? WIDEST : ROWS - k);
            }
        }

        Poly first() {
            return rows[0];
        }

        Poly last() {
            return rows[used > 0 ? used - 1 : 0];
        }

        int lastTop() {
            return last().top;
        }

        /** The chain that counts a polynomial's roots: it and its derivative. */
        void startRoots(int[] row) {
            rows[0].load(row);
            rows[1].loadDerivative(rows[0], term);
            extend();
        }

        void startPair(int[] one, int[] other) {
            boolean inOrder = topPower(one) >= topPower(other);
            rows[0].load(inOrder ? one : other);
            rows[1].load(inOrder ? other : one);
            extend();
        }

        /**
         * From its second row on, the chain of A and of the remainder of A' times B by A: it counts
         * the roots of A with the signs of B. The first row's sign is turned so that the third is
         * that remainder. B has an x in it, so the first row's degree is not below the second's.
         */
        void startSigns(int[] a, int[] b) {
            rows[0].clear();
            for (int i = 1; i <= LAST_POWER; i++) {
                for (int j = 0; j <= LAST_POWER; j++) {
                    term.put(-((long) i * a[i] * b[j]));
                    rows[0].parts[i - 1 + j].add(term, 1);
                }
            }
            rows[0].findTop();
            rows[1].load(a);
            extend();
        }

        /**
         * The chain that counts the roots of the last row. That row is brought to the first one's
         * leading coefficient first: its primitive part's divides it, so all stays whole and small.
         */
        void startLast() {
            Poly last = last();
            if (last.top < 0 || rows[0].top < 0) {
                return;
            }
            scale.copy(rows[0].parts[rows[0].top]);
            divider.copy(last.parts[last.top]);
            int halvings = divider.makeOdd();
            rest.copy(last);
            for (int k = 0; k <= rest.top; k++) {
                rest.parts[k].multiply(scale);
                rest.parts[k].shiftDown(halvings);
                rest.parts[k].divideByOdd(divider);
            }
            rows[0].copy(rest);
            rows[1].loadDerivative(rows[0], term);
            extend();
        }

        /** Goes on from the first two rows by subresultants, which keep the coefficients small. */
        private void extend() {
            gauge.put(1);
            height.put(1);
            used = rows[1].top < 0 ? 1 : 2;
            for (int k = 2; k < ROWS && used == k && rows[k - 1].top > 0; k++) {
                int drop = rows[k - 2].top - rows[k - 1].top;
                rest.copy(rows[k - 2]);
                reduceBy(rows[k - 1]);
                if (rest.top >= 0) {
                    divideRest(drop);
                    rows[k].copy(rest);
                    used = k + 1;
                    nextGauge(rows[k - 1], drop);
                }
            }
        }

        /** Leaves in rest its remainder by a row, times the magnitude of that row's lead to a power. */
        private void reduceBy(Poly row) {
            scale.copy(row.parts[row.top]);
            int side = scale.side;
            scale.dropSign();
            for (int k = rest.top; k >= row.top; k--) {
                upper.copy(rest.parts[k]);
                for (int j = 0; j < k; j++) {
                    rest.parts[j].multiply(scale);
                    int from = j - (k - row.top);
                    if (from >= 0) {
                        term.copy(upper);
                        term.multiply(row.parts[from]);
                        rest.parts[j].add(term, -side);
                    }
                }
                rest.parts[k].put(0);
            }
            rest.findTop();
        }

        /** Turns rest's sign and takes out the factor that is known to be in it. */
        private void divideRest(int drop) {
            divider.copy(gauge);
            for (int step = 0; step < drop; step++) {
                divider.multiply(height);
            }
            int halvings = divider.makeOdd();
            for (int k = 0; k <= rest.top; k++) {
                rest.parts[k].shiftDown(halvings);
                rest.parts[k].divideByOdd(divider);
                rest.parts[k].negate();
            }
        }

        /** gauge becomes the row's lead, height becomes gauge^drop / height^(drop - 1), as magnitudes. */
        private void nextGauge(Poly row, int drop) {
            gauge.copy(row.parts[row.top]);
            gauge.dropSign();
            if (drop <= 0) {
                return;
            }
            divider.copy(gauge);
            under.put(1);
            for (int step = 1; step < drop; step++) {
                divider.multiply(gauge);
                under.multiply(height);
            }
            divider.shiftDown(under.makeOdd());
            divider.divideByOdd(under);
            height.copy(divider);
        }

        /**
         * The changes of sign along the rows from that one on, at a point. Where the last row is 0
         * all are: so all are looked at by the first order at which the last row is not, which gives
         * the signs of the rows without what they have in common.
         */
        int changesAt(Point point, int from) {
            Poly last = last();
            int order = 0;
            while (order < last.top && point.taylor(last, order).side == 0) {
                order++;
            }
            int changes = 0;
            int before = 0;
            for (int k = from; k < used; k++) {
                int side = point.taylor(rows[k], order).side;
                if (side != 0) {
                    changes += before == -side ? 1 : 0;
                    before = side;
                }
            }
            return changes;
        }

        /** The changes of sign below all roots of all rows. */
        int changesBelowAll() {
            return changesBeyond(true);
        }

        int allRoots() {
            return changesBeyond(true) - changesBeyond(false);
        }

        private int changesBeyond(boolean below) {
            int changes = 0;
            int before = 0;
            for (int k = 0; k < used; k++) {
                int top = rows[k].top;
                int side = top < 0 ? 0 : rows[k].parts[top].side;
                side = below && top % 2 == 1 ? -side : side;
                if (side != 0) {
                    changes += before == -side ? 1 : 0;
                    before = side;
                }
            }
            return changes;
        }
    }
}
