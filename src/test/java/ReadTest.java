/** Promise 7 (read), with all that STEPS and READINGS do. */
public final class ReadTest {
    private static final int SIZE = 0;
    private static final int NOT_BELOW = 1;
    private static final int NOT_ABOVE = 2;
    private static final int SHOW = 3;
    private static final int LIKE = 4;

    private static final float[] SINGLES = {
        0f, -0f, 1f, -1f, 0.5f, -0.5f, 1.5f, 3e38f, -3e38f, Float.MIN_VALUE, -Float.MIN_VALUE, Float.MIN_NORMAL,
        -Float.MIN_NORMAL, Float.MAX_VALUE, -Float.MAX_VALUE, Float.POSITIVE_INFINITY, Float.NEGATIVE_INFINITY,
    };
    private static final double[] DOUBLES = {
        0, -0.0, 1, -1, 0.5, -0.5, 1.5, -1.5, 2.5, -2.5, 3.5, 0.49999999999999994, -0.49999999999999994,
        0.5000000000000001, 0.9999999999999999, -0.9999999999999999, 1.0000000000000002, 1.4999999999999998,
        2.4999999999999996, 2.5000000000000004, 1e300, -1e300, Double.MIN_VALUE, -Double.MIN_VALUE, Double.MIN_NORMAL,
        Double.MAX_VALUE, -Double.MAX_VALUE, Double.POSITIVE_INFINITY, Double.NEGATIVE_INFINITY, 0x1p51 + 0.5,
        -0x1p51 - 0.5, 0x1p51 + 1.5, 0x1p52 - 0.5, 0x1p52 - 1.5, 0x1p52 + 1, 0x1p53 - 1, -0x1p53, 0x1p50 + 0.25,
        0x1p50 + 0.75, 1023.5, 1024.5, -1023.5, -7.000000000000001, 4503599627370497.0,
    };

    public static void main(String[] args) {
        wholeNumbers();
        singles();
        doubles();
        wholeSteps();
        stepsGoInTheirRow();
        operandsOfGauges();
        ownValueIsThatOfBefore();
        readingsAndSwings();
        marksOfReadings();
        wrongReads();
        Check.end();
    }

    private static void through(int kind, int sort, long bits, long want) {
        GaugeBoard board = Boards.with(kind);
        board.step(0, sort);
        Check.due("kind " + kind + ", sort " + sort + ", read " + bits, () -> board.read(0, bits), want);
        Check.due("its value", () -> board.value(0), want);
    }

    private static void throughBy(int kind, int sort, long bits, long operand, long want) {
        GaugeBoard board = Boards.with(kind, kind);
        String told = "kind " + kind + ", sort " + sort + " by " + operand + ", read " + bits;
        board.stepBy(0, sort, operand);
        Check.due(told, () -> board.read(0, bits), want);
        board.bare(0);
        board.read(1, operand);
        board.stepOf(0, sort, 1);
        Check.due(told + " of a gauge", () -> board.read(0, bits), want);
    }

    private static void wholeNumbers() {
        long[] ints = {0, 1, -1, 7, -7, 2147483647L, -2147483647L, -2147483648L};
        for (long a : ints) {
            through(Boards.INT, SIZE, a, Math.abs((int) a));
            through(Boards.LONG, SIZE, a, Math.abs(a));
            for (long b : ints) {
                throughBy(Boards.INT, NOT_BELOW, a, b, Math.max(a, b));
                throughBy(Boards.INT, NOT_ABOVE, a, b, Math.min(a, b));
            }
        }
        long[] longs = {0, -1, 2147483648L, -2147483649L, Long.MAX_VALUE, -Long.MAX_VALUE, Long.MIN_VALUE};
        for (long a : longs) {
            through(Boards.LONG, SIZE, a, Math.abs(a));
            for (long b : longs) {
                throughBy(Boards.LONG, NOT_BELOW, a, b, Math.max(a, b));
                throughBy(Boards.LONG, NOT_ABOVE, a, b, Math.min(a, b));
            }
        }
    }

    private static void singles() {
        for (float a : SINGLES) {
            through(Boards.SINGLE, SIZE, Boards.f(a), Boards.f(Math.abs(a)));
            through(Boards.SINGLE, SHOW, Boards.f(a), Boards.f(Math.signum(a)));
            for (float b : SINGLES) {
                throughBy(Boards.SINGLE, NOT_BELOW, Boards.f(a), Boards.f(b), Boards.f(Math.max(a, b)));
                throughBy(Boards.SINGLE, NOT_ABOVE, Boards.f(a), Boards.f(b), Boards.f(Math.min(a, b)));
                throughBy(Boards.SINGLE, LIKE, Boards.f(a), Boards.f(b), Boards.f(Math.copySign(a, b)));
            }
        }
    }

    private static void doubles() {
        for (double a : DOUBLES) {
            through(Boards.DOUBLE, SIZE, Boards.d(a), Boards.d(Math.abs(a)));
            through(Boards.DOUBLE, SHOW, Boards.d(a), Boards.d(Math.signum(a)));
            for (double b : DOUBLES) {
                throughBy(Boards.DOUBLE, NOT_BELOW, Boards.d(a), Boards.d(b), Boards.d(Math.max(a, b)));
                throughBy(Boards.DOUBLE, NOT_ABOVE, Boards.d(a), Boards.d(b), Boards.d(Math.min(a, b)));
                throughBy(Boards.DOUBLE, LIKE, Boards.d(a), Boards.d(b), Boards.d(Math.copySign(a, b)));
            }
        }
    }

    private static void wholeSteps() {
        for (double a : DOUBLES) {
            wholeStepsOf(a);
        }
        for (int power = -3; power <= 53; power++) {
            double base = Math.scalb(1.0, power);
            double[] near = {base, Math.nextUp(base), Math.nextDown(base), base + 0.5, base + 1.5, base * 1.75};
            for (double a : near) {
                wholeStepsOf(a);
                wholeStepsOf(-a);
            }
        }
    }

    private static void wholeStepsOf(double a) {
        through(Boards.DOUBLE, 5, Boards.d(a), Boards.d(Math.floor(a)));
        through(Boards.DOUBLE, 6, Boards.d(a), Boards.d(Math.ceil(a)));
        through(Boards.DOUBLE, 7, Boards.d(a), Boards.d(Math.rint(a)));
    }

    private static void stepsGoInTheirRow() {
        GaugeBoard board = Boards.with(Boards.INT);
        board.stepBy(0, NOT_ABOVE, -3L);
        board.step(0, SIZE);
        board.stepBy(0, NOT_BELOW, 5L);
        Check.due("read(0, 10) through three steps", () -> board.read(0, 10L), 5);
        Check.due("read(0, -8) through three steps", () -> board.read(0, -8L), 8);
        board.bare(0);
        board.stepBy(0, NOT_BELOW, 5L);
        board.stepBy(0, NOT_ABOVE, 2L);
        Check.due("the last one has its way", () -> board.read(0, 4L), 2);
        board.bare(0);
        Check.due("without steps it is itself", () -> board.read(0, 4L), 4);
        for (int k = 1; k <= 8; k++) {
            board.stepBy(0, NOT_BELOW, k * 10L);
        }
        Check.due("the eighth step is done too", () -> board.read(0, 0L), 80);
    }

    private static void operandsOfGauges() {
        GaugeBoard board = Boards.with(Boards.LONG, Boards.LONG);
        board.stepOf(0, NOT_ABOVE, 1);
        Check.due("not above a gauge at 0", () -> board.read(0, 6L), 0);
        board.read(1, 4L);
        Check.due("value(0) stays until it is read", () -> board.value(0), 0);
        Check.due("not above a gauge at 4", () -> board.read(0, 6L), 4);
        board.read(1, -4L);
        Check.due("not above a gauge at -4", () -> board.read(0, 6L), -4);
        board.stepBy(1, NOT_BELOW, 9L);
        Check.due("its own steps are not done then", () -> board.read(0, 6L), -4);
    }

    private static void ownValueIsThatOfBefore() {
        GaugeBoard board = Boards.with(Boards.DOUBLE);
        board.read(0, Boards.d(-2));
        board.step(0, SIZE);
        board.stepOf(0, LIKE, 0);
        board.stepOf(0, NOT_BELOW, 0);
        Check.due("like itself of before", () -> board.read(0, Boards.d(1)), Boards.d(-1));
        Check.due("and not below it", () -> board.read(0, Boards.d(8)), Boards.d(-1));
        board.bare(0);
        board.stepOf(0, NOT_BELOW, 0);
        Check.due("a gauge that never sinks", () -> board.read(0, Boards.d(-5)), Boards.d(-1));
        Check.due("a gauge that rises", () -> board.read(0, Boards.d(3)), Boards.d(3));
    }

    private static void readingsAndSwings() {
        GaugeBoard board = Boards.with(Boards.DOUBLE, Boards.SINGLE, Boards.INT, Boards.LONG);
        long[][] rows = {
            {Boards.d(-0.0), Boards.d(0), Boards.d(1), Boards.d(-1), Boards.d(-0.0)},
            {Boards.f(-0f), Boards.f(0), Boards.f(1), Boards.f(-1), Boards.f(-0f)},
            {-1, 0, 1, -1, -2147483648L},
            {-1, 0, 1, -1, Long.MIN_VALUE},
        };
        int[] swings = {1, 2, 2, 3, 3};
        for (int g = 0; g < rows.length; g++) {
            int at = g;
            for (int i = 0; i < rows[g].length; i++) {
                board.read(g, rows[g][i]);
                Check.due("READINGS of gauge " + g, () -> board.about(at, 2), i + 1);
                Check.due("SWINGS of gauge " + g, () -> board.about(at, 3), swings[i]);
            }
        }
        board.step(2, SIZE);
        board.read(2, 5L);
        Check.due("SWINGS behind the steps", () -> board.about(2, 3), 4);
        board.read(2, -5L);
        Check.due("no SWING, as SIZE took the sign", () -> board.about(2, 3), 4);
    }

    private static void marksOfReadings() {
        GaugeBoard board = Boards.with(Boards.SINGLE);
        long[] read = {Boards.f(-0f), Boards.f(0f), Boards.f(-1f), Boards.f(-2f), Boards.f(3f), Boards.f(2f)};
        long[] high = {Boards.f(-0f), Boards.f(0f), Boards.f(0f), Boards.f(0f), Boards.f(3f), Boards.f(3f)};
        long[] low = {Boards.f(-0f), Boards.f(-0f), Boards.f(-1f), Boards.f(-2f), Boards.f(-2f), Boards.f(-2f)};
        for (int i = 0; i < read.length; i++) {
            board.read(0, read[i]);
            Check.due("HIGH behind reading " + i, () -> board.mark(0, true), high[i]);
            Check.due("LOW behind reading " + i, () -> board.mark(0, false), low[i]);
        }
    }

    private static void wrongReads() {
        GaugeBoard board = Boards.with(0, 1, 2, 3);
        long[][] wrong = {
            {2147483648L, -2147483649L, Long.MAX_VALUE, Long.MIN_VALUE},
            {},
            {2147483648L, -2147483649L, 0x7f800001L, 0x7fffffffL, -8388607L, -1L, 0x80000000L, Long.MIN_VALUE,
                0x100000000L},
            {0x7ff0000000000001L, Long.MAX_VALUE, 0x7ff8000000000000L, 0xfff0000000000001L, -1L},
        };
        for (int g = 0; g < 4; g++) {
            int at = g;
            for (long bits : wrong[g]) {
                Check.due("read(" + g + ", " + bits + ")", () -> board.read(at, bits), Check.ARGUMENT);
            }
            Check.due("READINGS then", () -> board.about(at, 2), 0);
        }
        int[] nowhere = {-1, 4, 12, Integer.MIN_VALUE, Integer.MAX_VALUE};
        for (int g : nowhere) {
            Check.due("read(" + g + ", -1)", () -> board.read(g, -1L), Check.NONE);
        }
    }
}
