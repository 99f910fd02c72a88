/** Bits of values, and the whole of what a board tells. */
final class Boards {
    static final int INT = 0;
    static final int LONG = 1;
    static final int SINGLE = 2;
    static final int DOUBLE = 3;

    private Boards() {
    }

    static long d(double value) {
        return Double.doubleToRawLongBits(value);
    }

    static long f(float value) {
        return Float.floatToRawIntBits(value);
    }

    /** A board with gauges of the kinds at the places 0, 1, 2 .. */
    static GaugeBoard with(int... kinds) {
        GaugeBoard board = new GaugeBoard();
        for (int g = 0; g < kinds.length; g++) {
            board.fit(g, kinds[g]);
        }
        return board;
    }

    /** All that can be seen of a board without changing it. */
    static String look(GaugeBoard board) {
        StringBuilder seen = new StringBuilder();
        seen.append(board.gauges());
        for (int g = 0; g < 12; g++) {
            int at = g;
            String value = Check.answer(() -> board.value(at));
            seen.append("\n").append(g).append(": ").append(value);
            if (!value.equals(Check.NONE)) {
                lookAt(board, g, seen);
            }
        }
        return seen.toString();
    }

    private static void lookAt(GaugeBoard board, int g, StringBuilder seen) {
        seen.append(" high ").append(Check.answer(() -> board.mark(g, true)));
        seen.append(" low ").append(Check.answer(() -> board.mark(g, false)));
        for (int what = 0; what <= 5; what++) {
            seen.append(" ").append(board.about(g, what));
        }
        for (int k = 0; k < board.about(g, 1); k++) {
            seen.append(" step");
            for (int what = 0; what <= 2; what++) {
                seen.append(" ").append(board.stepAt(g, k, what));
            }
        }
    }
}
