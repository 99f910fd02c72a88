import java.util.NoSuchElementException;

/** The gauge board of a canal lock: gauges whose readings go through rows of steps, all of them told by bits. */
public final class GaugeBoard {
    private static final int PLACES = 12;
    private static final int MOST_STEPS = 8;

    private static final int INT = 0;
    private static final int LONG = 1;
    private static final int SINGLE = 2;
    private static final int DOUBLE = 3;

    private static final int SIZE = 0;
    private static final int NOT_BELOW = 1;
    private static final int NOT_ABOVE = 2;
    private static final int SHOW = 3;
    private static final int LIKE = 4;
    private static final int DOWN = 5;
    private static final int UP = 6;
    private static final int EVEN = 7;

    private static final int NO_SOURCE = -1;

    private static final int OPERAND_NONE = 0;
    private static final int OPERAND_VALUE = 1;
    private static final int OPERAND_GAUGE = 2;

    private static final long LEAST_INT = -2147483648L;
    private static final long HIGHEST_INT = 2147483647L;
    private static final long LEAST_LONG = -9223372036854775808L;

    // A SINGLE's bits are told as an int, so its sign reaches through all the upper bits of the long.
    private static final long SINGLE_SIGN = LEAST_INT;
    private static final int SINGLE_FRACTION_BITS = 23;
    private static final int SINGLE_BIAS = 127;
    private static final long SINGLE_INFINITE = 0x7f800000L;
    private static final long SINGLE_ONE = 0x3f800000L;
    // The last bit of the smallest SINGLES is worth 2 to the power of -149.
    private static final int SINGLE_LEAST_POWER = 149;

    private static final long DOUBLE_SIGN = LEAST_LONG;
    private static final int DOUBLE_FRACTION_BITS = 52;
    private static final int DOUBLE_BIAS = 1023;
    private static final long DOUBLE_INFINITE = 0x7ff0000000000000L;
    private static final long DOUBLE_ONE = 0x3ff0000000000000L;
    private static final long DOUBLE_HALF = 0x3fe0000000000000L;

    // A place holds null until a gauge is fitted there.
    private final Gauge[] places;

    public GaugeBoard() {
        places = new Gauge[PLACES];
    }

    public boolean fit(int g, int kind)
            throws NoSuchElementException, IllegalArgumentException, IllegalStateException {
        if (!isPlace(g)) {
            throw new NoSuchElementException("there is no such place");
        }
        needKind(kind);
        Gauge before = gaugeAt(g);
        if (before == null) {
            places[g] = new Gauge(kind);
            return false;
        }
        if (before.kind != kind && stepsTaking(g) > before.ownStepsTaking(g)) {
            throw new IllegalStateException("a step of another gauge takes its value");
        }
        before.startAs(kind);
        return true;
    }

    public int step(int g, int sort)
            throws NoSuchElementException, IllegalArgumentException, IllegalStateException {
        Gauge gauge = needGauge(g);
        needSort(gauge.kind, sort, false);
        return gauge.addStep(sort, NO_SOURCE, 0L);
    }

    public int stepBy(int g, int sort, long bits)
            throws NoSuchElementException, IllegalArgumentException, IllegalStateException {
        Gauge gauge = needGauge(g);
        needSort(gauge.kind, sort, true);
        needGood(gauge.kind, bits);
        return gauge.addStep(sort, NO_SOURCE, bits);
    }

    public int stepOf(int g, int sort, int h)
            throws NoSuchElementException, IllegalArgumentException, IllegalStateException {
        Gauge gauge = needGauge(g);
        Gauge source = needGauge(h);
        needSort(gauge.kind, sort, true);
        if (source.kind != gauge.kind) {
            throw new IllegalArgumentException("the other gauge is of another kind");
        }
        return gauge.addStep(sort, h, 0L);
    }

    public int bare(int g) throws NoSuchElementException {
        Gauge gauge = needGauge(g);
        int before = gauge.stepCount;
        gauge.stepCount = 0;
        return before;
    }

    public long read(int g, long bits) throws NoSuchElementException, IllegalArgumentException {
        Gauge gauge = needGauge(g);
        needGood(gauge.kind, bits);
        return takeReading(gauge, bits);
    }

    public long hand(int g, int h) throws NoSuchElementException, IllegalArgumentException {
        Gauge from = needGauge(g);
        Gauge to = needGauge(h);
        if (g == h) {
            throw new IllegalArgumentException("a gauge can't hand on to itself");
        }
        if (!canHandOn(from.kind, to.kind)) {
            throw new IllegalArgumentException("these kinds can't hand on");
        }
        return takeReading(to, handedOn(from.value, from.kind, to.kind));
    }

    public boolean clear(int g) throws NoSuchElementException {
        Gauge gauge = needGauge(g);
        boolean before = gauge.marked;
        gauge.marked = false;
        return before;
    }

    public long value(int g) throws NoSuchElementException {
        return needGauge(g).value;
    }

    public long mark(int g, boolean high) throws NoSuchElementException, IllegalStateException {
        Gauge gauge = needGauge(g);
        if (!gauge.marked) {
            throw new IllegalStateException("the mark is not set");
        }
        return high ? gauge.high : gauge.low;
    }

    public int about(int g, int what) throws NoSuchElementException, IllegalArgumentException {
        Gauge gauge = needGauge(g);
        switch (what) {
            case 0:
                return gauge.kind;
            case 1:
                return gauge.stepCount;
            case 2:
                return gauge.readings;
            case 3:
                return gauge.swings;
            case 4:
                return signOf(gauge.value);
            case 5:
                return stepsTaking(g);
            default:
                throw new IllegalArgumentException("a gauge has nothing of this number");
        }
    }

    public int stepAt(int g, int k, int what) throws NoSuchElementException, IllegalArgumentException {
        Gauge gauge = needGauge(g);
        if (k < 0 || k >= gauge.stepCount) {
            throw new NoSuchElementException("there is no such step");
        }
        switch (what) {
            case 0:
                return gauge.sorts[k];
            case 1:
                return operandForm(gauge.sorts[k], gauge.sources[k]);
            case 2:
                return gauge.sources[k];
            default:
                throw new IllegalArgumentException("a step has nothing of this number");
        }
    }

    public int rank(int g) throws NoSuchElementException {
        Gauge gauge = needGauge(g);
        int count = 0;
        for (int i = 0; i < PLACES; i++) {
            Gauge other = places[i];
            if (other != null && other.kind == gauge.kind && !isAbove(other.value, gauge.value, gauge.kind)) {
                count++;
            }
        }
        return count;
    }

    public long most(int kind, boolean high) throws IllegalArgumentException, IllegalStateException {
        needKind(kind);
        Gauge best = null;
        for (int i = 0; i < PLACES; i++) {
            Gauge next = places[i];
            if (next != null && next.kind == kind) {
                best = best == null ? next : further(best, next, high);
            }
        }
        if (best == null) {
            throw new IllegalStateException("there is no gauge of this kind");
        }
        return best.value;
    }

    public int gauges() {
        int count = 0;
        for (int i = 0; i < PLACES; i++) {
            if (places[i] != null) {
                count++;
            }
        }
        return count;
    }

    // What a call asks of its arguments.

    private static boolean isPlace(int g) {
        return g >= 0 && g < PLACES;
    }

    private Gauge gaugeAt(int g) {
        return isPlace(g) ? places[g] : null;
    }

    private Gauge needGauge(int g) {
        Gauge gauge = gaugeAt(g);
        if (gauge == null) {
            throw new NoSuchElementException("the gauge is not there");
        }
        return gauge;
    }

    private static void needKind(int kind) {
        if (kind < INT || kind > DOUBLE) {
            throw new IllegalArgumentException("there is no such kind");
        }
    }

    private static void needSort(int kind, int sort, boolean withOperand) {
        if (sort < SIZE || sort > lastSort(kind)) {
            throw new IllegalArgumentException("the gauge's kind has no such sort");
        }
        if (wantsOperand(sort) != withOperand) {
            throw new IllegalArgumentException("the sort wants an operand or wants none");
        }
    }

    private static void needGood(int kind, long bits) {
        if (!isGood(kind, bits)) {
            throw new IllegalArgumentException("the bits are not good for the gauge's kind");
        }
    }

    private static int lastSort(int kind) {
        if (kind == DOUBLE) {
            return EVEN;
        }
        return kind == SINGLE ? LIKE : NOT_ABOVE;
    }

    private static boolean wantsOperand(int sort) {
        return sort == NOT_BELOW || sort == NOT_ABOVE || sort == LIKE;
    }

    private static int operandForm(int sort, int source) {
        if (!wantsOperand(sort)) {
            return OPERAND_NONE;
        }
        return source == NO_SOURCE ? OPERAND_VALUE : OPERAND_GAUGE;
    }

    private static boolean isGood(int kind, long bits) {
        if (kind == LONG) {
            return true;
        }
        if (kind == DOUBLE) {
            return (bits & ~DOUBLE_SIGN) <= DOUBLE_INFINITE;
        }
        if (bits < LEAST_INT || bits > HIGHEST_INT) {
            return false;
        }
        return kind == INT || (bits & ~SINGLE_SIGN) <= SINGLE_INFINITE;
    }

    // Signs and the order.

    private static boolean isReal(int kind) {
        return kind == SINGLE || kind == DOUBLE;
    }

    private static int signOf(long bits) {
        return bits < 0 ? 1 : 0;
    }

    // Bits of reals below zero grow with their size, so they are turned round to grow with the order.
    private static long orderKey(long bits, int kind) {
        return isReal(kind) && bits < 0 ? bits ^ ~LEAST_LONG : bits;
    }

    private static boolean isAbove(long a, long b, int kind) {
        return orderKey(a, kind) > orderKey(b, kind);
    }

    private static long higher(long a, long b, int kind) {
        return isAbove(a, b, kind) ? a : b;
    }

    private static long lower(long a, long b, int kind) {
        return isAbove(a, b, kind) ? b : a;
    }

    private static Gauge further(Gauge a, Gauge b, boolean high) {
        return isAbove(b.value, a.value, a.kind) == high ? b : a;
    }

    // Steps and readings.

    private int stepsTaking(int g) {
        int count = 0;
        for (int i = 0; i < PLACES; i++) {
            Gauge other = places[i];
            if (other != null) {
                count += other.ownStepsTaking(g);
            }
        }
        return count;
    }

    // The gauge's own value changes only behind its last step, so a step of itself finds the value of before.
    private long takeReading(Gauge gauge, long reading) {
        long bits = reading;
        for (int k = 0; k < gauge.stepCount; k++) {
            bits = afterStep(gauge.sorts[k], bits, operandOf(gauge, k), gauge.kind);
        }
        gauge.takeValue(bits);
        return bits;
    }

    private long operandOf(Gauge gauge, int k) {
        Gauge source = gaugeAt(gauge.sources[k]);
        return source == null ? gauge.operands[k] : source.value;
    }

    private static long afterStep(int sort, long bits, long operand, int kind) {
        switch (sort) {
            case SIZE:
                return sizeOf(bits, kind);
            case NOT_BELOW:
                return higher(bits, operand, kind);
            case NOT_ABOVE:
                return lower(bits, operand, kind);
            case SHOW:
                return shown(bits, kind);
            case LIKE:
                return withSign(sizeOf(bits, kind), operand < 0, kind);
            case DOWN:
                return bits < 0 ? wholeAway(bits) : wholeToward(bits);
            case UP:
                return bits < 0 ? wholeToward(bits) : wholeAway(bits);
            case EVEN:
                return wholeNearest(bits);
            default:
                return bits;
        }
    }

    private static long signBits(int kind) {
        return kind == SINGLE ? SINGLE_SIGN : DOUBLE_SIGN;
    }

    private static long withSign(long size, boolean below, int kind) {
        return below ? size | signBits(kind) : size;
    }

    private static long sizeOf(long bits, int kind) {
        if (isReal(kind)) {
            return bits & ~signBits(kind);
        }
        long least = kind == INT ? LEAST_INT : LEAST_LONG;
        return bits >= 0 || bits == least ? bits : -bits;
    }

    private static long shown(long bits, int kind) {
        if (sizeOf(bits, kind) == 0) {
            return bits;
        }
        return withSign(kind == SINGLE ? SINGLE_ONE : DOUBLE_ONE, bits < 0, kind);
    }

    // Whole numbers by a DOUBLE's bits.

    // The bits that are worth less than one, of a DOUBLE from one on; none for those too big to have any.
    private static long partMask(long bits) {
        int power = (int) ((bits & ~DOUBLE_SIGN) >>> DOUBLE_FRACTION_BITS) - DOUBLE_BIAS;
        return power >= DOUBLE_FRACTION_BITS ? 0L : (1L << (DOUBLE_FRACTION_BITS - power)) - 1;
    }

    private static boolean isBelowOne(long bits) {
        return (bits & ~DOUBLE_SIGN) < DOUBLE_ONE;
    }

    private static boolean isWhole(long bits) {
        if (isBelowOne(bits)) {
            return (bits & ~DOUBLE_SIGN) == 0;
        }
        return (bits & partMask(bits)) == 0;
    }

    private static long wholeToward(long bits) {
        if (isBelowOne(bits)) {
            return bits & DOUBLE_SIGN;
        }
        return bits & ~partMask(bits);
    }

    // A carry out of the fraction goes into the exponent, which is just what the next power of two needs.
    private static long wholeAway(long bits) {
        if (isWhole(bits)) {
            return bits;
        }
        if (isBelowOne(bits)) {
            return (bits & DOUBLE_SIGN) | DOUBLE_ONE;
        }
        return wholeToward(bits) + partMask(bits) + 1;
    }

    private static long wholeNearest(long bits) {
        if (isBelowOne(bits)) {
            return (bits & ~DOUBLE_SIGN) > DOUBLE_HALF ? wholeAway(bits) : wholeToward(bits);
        }
        long hidden = 1L << DOUBLE_FRACTION_BITS;
        long significand = (bits & (hidden - 1)) | hidden;
        return roundsAway(significand, partMask(bits)) ? wholeAway(bits) : wholeToward(bits);
    }

    // Whether the bits of the mask, when they are cut off, make what is left one more: of two the even one.
    private static boolean roundsAway(long number, long mask) {
        long rest = number & mask;
        long half = (mask >>> 1) + 1;
        boolean odd = (number & (mask + 1)) != 0;
        return rest > half || (rest == half && odd);
    }

    // Handing on.

    // The kinds are numbered so that each one hands on to itself and to those behind it alone.
    private static boolean canHandOn(int from, int to) {
        return from <= to;
    }

    private static long handedOn(long bits, int from, int to) {
        if (from == to || to == LONG) {
            return bits;
        }
        if (from == SINGLE) {
            return singleAsDouble(bits);
        }
        if (to == SINGLE) {
            return wholeAsReal(bits, SINGLE_FRACTION_BITS, SINGLE_BIAS, SINGLE);
        }
        return wholeAsReal(bits, DOUBLE_FRACTION_BITS, DOUBLE_BIAS, DOUBLE);
    }

    // The least LONG has no opposite, but its wrapped one is right as 64 bits without a sign.
    private static long wholeAsReal(long number, int fractionBits, int bias, int kind) {
        if (number == 0) {
            return 0L;
        }
        long size = number < 0 ? -number : number;
        int top = highestBit(size);
        long significand = cutTo(size, top - fractionBits);
        long hidden = 1L << fractionBits;
        // Added, not joined: a significand rounded up to the next power of two carries into the exponent.
        long real = ((long) (top + bias) << fractionBits) + (significand - hidden);
        return withSign(real, number < 0, kind);
    }

    private static int highestBit(long size) {
        int top = 63;
        while (top > 0 && size >>> top == 0) {
            top--;
        }
        return top;
    }

    private static long cutTo(long size, int surplus) {
        if (surplus <= 0) {
            return size << -surplus;
        }
        long kept = size >>> surplus;
        return roundsAway(size, (1L << surplus) - 1) ? kept + 1 : kept;
    }

    private static long singleAsDouble(long bits) {
        return withSign(sizeAsDouble(bits & ~SINGLE_SIGN), bits < 0, DOUBLE);
    }

    private static long sizeAsDouble(long size) {
        if (size == 0) {
            return 0L;
        }
        if (size == SINGLE_INFINITE) {
            return DOUBLE_INFINITE;
        }
        if (size >>> SINGLE_FRACTION_BITS == 0) {
            long asWhole = wholeAsReal(size, DOUBLE_FRACTION_BITS, DOUBLE_BIAS, DOUBLE);
            return asWhole - ((long) SINGLE_LEAST_POWER << DOUBLE_FRACTION_BITS);
        }
        long widened = size << (DOUBLE_FRACTION_BITS - SINGLE_FRACTION_BITS);
        return widened + ((long) (DOUBLE_BIAS - SINGLE_BIAS) << DOUBLE_FRACTION_BITS);
    }

    /** One gauge; its rows are made once and used again when another gauge is fitted at its place. */
    private static final class Gauge {
        private final int[] sorts;
        private final int[] sources;
        private final long[] operands;
        private int kind;
        private int stepCount;
        private long value;
        private boolean marked;
        private long high;
        private long low;
        private int readings;
        private int swings;

        private Gauge(int kind) {
            sorts = new int[MOST_STEPS];
            sources = new int[MOST_STEPS];
            operands = new long[MOST_STEPS];
            this.kind = kind;
        }

        private void startAs(int newKind) {
            kind = newKind;
            stepCount = 0;
            value = 0L;
            marked = false;
            readings = 0;
            swings = 0;
        }

        private int addStep(int sort, int source, long operand) {
            if (stepCount >= MOST_STEPS) {
                throw new IllegalStateException("there are eight steps");
            }
            sorts[stepCount] = sort;
            sources[stepCount] = source;
            operands[stepCount] = operand;
            stepCount++;
            return stepCount;
        }

        private int ownStepsTaking(int g) {
            int count = 0;
            for (int k = 0; k < stepCount; k++) {
                if (sources[k] == g) {
                    count++;
                }
            }
            return count;
        }

        private void takeValue(long bits) {
            readings++;
            if (signOf(bits) != signOf(value)) {
                swings++;
            }
            high = marked ? higher(high, bits, kind) : bits;
            low = marked ? lower(low, bits, kind) : bits;
            marked = true;
            value = bits;
        }
    }
}
