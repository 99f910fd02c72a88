/** Promise 8 (hand): values handed on between all kinds. */
public final class HandTest {
    public static void main(String[] args) {
        intsAndLongs();
        singlesToDoubles();
        sameKinds();
        handedOnIsAReading();
        wrongHands();
        Check.end();
    }

    private static void handed(int from, int to, long bits, long want) {
        GaugeBoard board = Boards.with(from, to);
        board.read(0, bits);
        Check.due("from kind " + from + " to " + to + ": " + bits, () -> board.hand(0, 1), want);
        Check.due("the one that hands on stays", () -> board.value(0), bits);
        Check.due("the VALUE handed on", () -> board.value(1), want);
    }

    private static void intsAndLongs() {
        wholeNumber(0);
        wholeNumber(Long.MIN_VALUE);
        for (int power = 0; power < 64; power++) {
            long base = 1L << power;
            long[] near = {base, base - 1, base + 1, base + (base >> 1), base + (base >> 1) - 1};
            for (long number : near) {
                wholeNumber(number);
                wholeNumber(-number);
            }
        }
        for (int last = 0; last < 8; last++) {
            for (int shift = 0; shift < 38; shift++) {
                ties((0x800001L + last) << shift, shift);
                ties((0xfffff8L + last) << shift, shift);
            }
            for (int shift = 0; shift < 9; shift++) {
                ties((0x10000000000001L + last) << shift, shift);
                ties((0x1ffffffffffff8L + last) << shift, shift);
            }
        }
    }

    // About the middle between two neighbours, where the rounding turns.
    private static void ties(long number, int shift) {
        long half = shift == 0 ? 0 : 1L << (shift - 1);
        for (int off = -1; off <= 1; off++) {
            wholeNumber(number + half + off);
            wholeNumber(-(number + half + off));
        }
    }

    private static void wholeNumber(long number) {
        handed(Boards.LONG, Boards.LONG, number, number);
        handed(Boards.LONG, Boards.SINGLE, number, Boards.f((float) number));
        handed(Boards.LONG, Boards.DOUBLE, number, Boards.d((double) number));
        if (number == (int) number) {
            handed(Boards.INT, Boards.INT, number, number);
            handed(Boards.INT, Boards.LONG, number, number);
            handed(Boards.INT, Boards.SINGLE, number, Boards.f((float) number));
            handed(Boards.INT, Boards.DOUBLE, number, Boards.d((double) number));
        }
    }

    private static void singlesToDoubles() {
        float[] singles = {
            0f, 1f, 1.5f, 0.1f, Float.MIN_VALUE, 3 * Float.MIN_VALUE, Float.MIN_NORMAL, Math.nextDown(Float.MIN_NORMAL),
            Float.MAX_VALUE, Float.POSITIVE_INFINITY, 16777215f, 1e-40f,
        };
        for (float single : singles) {
            handed(Boards.SINGLE, Boards.DOUBLE, Boards.f(single), Boards.d(single));
            handed(Boards.SINGLE, Boards.DOUBLE, Boards.f(-single), Boards.d(-single));
        }
        for (int exponent = 0; exponent < 255; exponent++) {
            int[] fractions = {0, 1, 0x400000, 0x7fffff, 0x2aaaaa};
            for (int fraction : fractions) {
                int bits = exponent << 23 | fraction;
                handed(Boards.SINGLE, Boards.DOUBLE, bits, Boards.d(Float.intBitsToFloat(bits)));
            }
        }
        for (int bit = 0; bit < 23; bit++) {
            handed(Boards.SINGLE, Boards.DOUBLE, 1L << bit, Boards.d(Float.intBitsToFloat(1 << bit)));
        }
    }

    private static void sameKinds() {
        handed(Boards.SINGLE, Boards.SINGLE, Boards.f(-0f), Boards.f(-0f));
        handed(Boards.SINGLE, Boards.SINGLE, Boards.f(Float.NEGATIVE_INFINITY), Boards.f(Float.NEGATIVE_INFINITY));
        handed(Boards.DOUBLE, Boards.DOUBLE, Boards.d(-0.0), Boards.d(-0.0));
        handed(Boards.DOUBLE, Boards.DOUBLE, Boards.d(Double.MIN_VALUE), Boards.d(Double.MIN_VALUE));
    }

    private static void handedOnIsAReading() {
        GaugeBoard board = Boards.with(Boards.INT, Boards.DOUBLE, Boards.DOUBLE);
        board.stepBy(1, 2, Boards.d(-0.5));
        board.step(1, 6);
        board.stepOf(1, 4, 2);
        board.read(0, 7L);
        board.read(2, Boards.d(-3));
        Check.due("through the steps of the other", () -> board.hand(0, 1), Boards.d(-0.0));
        Check.due("its READINGS", () -> board.about(1, 2), 1);
        Check.due("its SWINGS", () -> board.about(1, 3), 1);
        Check.due("its HIGH", () -> board.mark(1, true), Boards.d(-0.0));
        Check.due("READINGS of the one that hands on", () -> board.about(0, 2), 1);
        Check.due("a gauge that takes the one that hands on", () -> board.hand(2, 1), Boards.d(-3));
        Check.due("its LOW", () -> board.mark(1, false), Boards.d(-3));
        Check.due("its HIGH stays", () -> board.mark(1, true), Boards.d(-0.0));
    }

    private static void wrongHands() {
        GaugeBoard board = Boards.with(0, 1, 2, 3);
        for (int g = 0; g < 4; g++) {
            for (int h = 0; h < 4; h++) {
                int from = g;
                int to = h;
                Check.due("hand(" + g + ", " + h + ")", () -> board.hand(from, to), g < h ? 0 : Check.ARGUMENT);
            }
        }
        int[] nowhere = {-1, 4, 12, Integer.MIN_VALUE, Integer.MAX_VALUE};
        for (int g : nowhere) {
            Check.due("hand(" + g + ", 0)", () -> board.hand(g, 0), Check.NONE);
            Check.due("hand(3, " + g + ")", () -> board.hand(3, g), Check.NONE);
            Check.due("hand(" + g + ", " + g + ")", () -> board.hand(g, g), Check.NONE);
        }
    }
}
