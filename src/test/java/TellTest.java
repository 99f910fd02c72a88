/** Promises 9 (clear), 10 (value), 11 (mark), 12 (about), 14 (rank) and 15 (most). */
public final class TellTest {
    private static final int[] NOWHERE = {-1, 6, 12, Integer.MIN_VALUE, Integer.MAX_VALUE};

    public static void main(String[] args) {
        clearAndMark();
        values();
        abouts();
        takenValues();
        ranksOfReals();
        ranksOfWholeNumbers();
        ranksByKind();
        mosts();
        Check.end();
    }

    private static void clearAndMark() {
        GaugeBoard board = Boards.with(Boards.INT, Boards.INT);
        Check.due("clear(0) of marks not set", () -> board.clear(0), false);
        board.read(0, 5L);
        board.read(0, -6L);
        board.read(1, 1L);
        Check.due("mark(0, true)", () -> board.mark(0, true), 5);
        Check.due("mark(0, false)", () -> board.mark(0, false), -6);
        Check.due("clear(0)", () -> board.clear(0), true);
        Check.due("clear(0) again", () -> board.clear(0), false);
        Check.due("mark(0, true) then", () -> board.mark(0, true), Check.STATE);
        Check.due("mark(0, false) then", () -> board.mark(0, false), Check.STATE);
        Check.due("the other gauge's mark", () -> board.mark(1, true), 1);
        Check.due("value(0) then", () -> board.value(0), -6);
        Check.due("READINGS then", () -> board.about(0, 2), 2);
        Check.due("SWINGS then", () -> board.about(0, 3), 1);
        board.read(0, 2L);
        Check.due("HIGH set anew", () -> board.mark(0, true), 2);
        Check.due("LOW set anew", () -> board.mark(0, false), 2);
        for (int g : NOWHERE) {
            Check.due("clear(" + g + ")", () -> board.clear(g), Check.NONE);
            Check.due("mark(" + g + ", true)", () -> board.mark(g, true), Check.NONE);
            Check.due("mark(" + g + ", false)", () -> board.mark(g, false), Check.NONE);
        }
    }

    private static void values() {
        GaugeBoard board = Boards.with(Boards.INT, Boards.SINGLE);
        Check.due("value(0) at first", () -> board.value(0), 0);
        board.read(1, Boards.f(-1.5f));
        Check.due("value(1)", () -> board.value(1), Boards.f(-1.5f));
        Check.due("value(0) stays", () -> board.value(0), 0);
        for (int g : NOWHERE) {
            Check.due("value(" + g + ")", () -> board.value(g), Check.NONE);
        }
    }

    private static void abouts() {
        GaugeBoard board = Boards.with(Boards.DOUBLE);
        board.read(0, Boards.d(3));
        board.read(0, Boards.d(-0.0));
        board.read(0, Boards.d(-4));
        board.step(0, 3);
        board.stepOf(0, 1, 0);
        int[] want = {3, 2, 3, 1, 1, 1};
        for (int what = 0; what < want.length; what++) {
            int asked = what;
            Check.due("about(0, " + what + ")", () -> board.about(0, asked), want[what]);
        }
        board.bare(0);
        board.read(0, 0L);
        Check.due("SIGN of 0", () -> board.about(0, 4), 0);
        int[] wrong = {-1, 6, Integer.MIN_VALUE, Integer.MAX_VALUE};
        for (int what : wrong) {
            Check.due("about(0, " + what + ")", () -> board.about(0, what), Check.ARGUMENT);
        }
        for (int g : NOWHERE) {
            Check.due("about(" + g + ", 0)", () -> board.about(g, 0), Check.NONE);
            Check.due("about(" + g + ", 6)", () -> board.about(g, 6), Check.NONE);
        }
    }

    private static void takenValues() {
        GaugeBoard board = Boards.with(1, 1, 1);
        board.stepOf(0, 1, 2);
        board.stepOf(0, 2, 2);
        board.stepBy(0, 2, 2L);
        board.stepOf(1, 1, 2);
        board.stepOf(2, 1, 2);
        board.stepOf(2, 1, 0);
        Check.due("about(2, 5)", () -> board.about(2, 5), 4);
        Check.due("about(0, 5)", () -> board.about(0, 5), 1);
        Check.due("about(1, 5)", () -> board.about(1, 5), 0);
        board.bare(0);
        Check.due("about(2, 5) without those of gauge 0", () -> board.about(2, 5), 2);
    }

    private static void rankedInOrder(int kind, long... inOrder) {
        GaugeBoard board = new GaugeBoard();
        for (int i = 0; i < inOrder.length; i++) {
            board.fit(11 - i, kind);
            board.read(11 - i, inOrder[i]);
        }
        for (int i = 0; i < inOrder.length; i++) {
            int at = 11 - i;
            Check.due("rank of " + inOrder[i] + ", kind " + kind, () -> board.rank(at), i + 1);
        }
        Check.due("most high, kind " + kind, () -> board.most(kind, true), inOrder[inOrder.length - 1]);
        Check.due("most low, kind " + kind, () -> board.most(kind, false), inOrder[0]);
    }

    private static void ranksOfReals() {
        rankedInOrder(Boards.SINGLE, Boards.f(Float.NEGATIVE_INFINITY), Boards.f(-Float.MAX_VALUE), Boards.f(-2f),
                Boards.f(-1f), Boards.f(-Float.MIN_VALUE), Boards.f(-0f), Boards.f(0f), Boards.f(Float.MIN_VALUE),
                Boards.f(1f), Boards.f(2f), Boards.f(Float.MAX_VALUE), Boards.f(Float.POSITIVE_INFINITY));
        rankedInOrder(Boards.DOUBLE, Boards.d(Double.NEGATIVE_INFINITY), Boards.d(-Double.MAX_VALUE), Boards.d(-2),
                Boards.d(-1), Boards.d(-Double.MIN_VALUE), Boards.d(-0.0), Boards.d(0), Boards.d(Double.MIN_VALUE),
                Boards.d(1), Boards.d(2), Boards.d(Double.MAX_VALUE), Boards.d(Double.POSITIVE_INFINITY));
        rankedInOrder(Boards.DOUBLE, Boards.d(-0.0), Boards.d(0));
        rankedInOrder(Boards.SINGLE, Boards.f(-2f), Boards.f(-1f));
    }

    private static void ranksOfWholeNumbers() {
        rankedInOrder(Boards.INT, -2147483648L, -2147483647L, -2L, -1L, 0L, 1L, 2147483647L);
        rankedInOrder(Boards.LONG, Long.MIN_VALUE, Long.MIN_VALUE + 1, -2147483649L, -2L, -1L, 0L, 1L, 2147483648L,
                Long.MAX_VALUE);
    }

    private static void ranksByKind() {
        GaugeBoard board = Boards.with(0, 1, 2, 3, 0, 0);
        board.read(0, 4L);
        board.read(4, 4L);
        board.read(5, -4L);
        Check.due("rank(0), two alike", () -> board.rank(0), 3);
        Check.due("rank(4), two alike", () -> board.rank(4), 3);
        Check.due("rank(5)", () -> board.rank(5), 1);
        for (int g = 1; g <= 3; g++) {
            int at = g;
            Check.due("rank(" + g + "), alone in its kind", () -> board.rank(at), 1);
        }
        for (int g : NOWHERE) {
            Check.due("rank(" + g + ")", () -> board.rank(g), Check.NONE);
        }
    }

    private static void mosts() {
        GaugeBoard board = Boards.with(0, 0, 1, 0);
        board.read(0, 3L);
        board.read(1, -3L);
        board.read(2, 100L);
        Check.due("most(0, true)", () -> board.most(0, true), 3);
        Check.due("most(0, false)", () -> board.most(0, false), -3);
        Check.due("most(1, true)", () -> board.most(1, true), 100);
        Check.due("most(1, false)", () -> board.most(1, false), 100);
        Check.due("most(2, true)", () -> board.most(2, true), Check.STATE);
        Check.due("most(3, false)", () -> board.most(3, false), Check.STATE);
        board.read(1, -1L);
        Check.due("most is of what they show now", () -> board.most(0, false), -1);
        int[] wrong = {-1, 4, Integer.MIN_VALUE, Integer.MAX_VALUE};
        for (int kind : wrong) {
            Check.due("most(" + kind + ", true)", () -> board.most(kind, true), Check.ARGUMENT);
            Check.due("most(" + kind + ", false) of a new board", () -> new GaugeBoard().most(kind, false),
                    Check.ARGUMENT);
        }
    }
}
