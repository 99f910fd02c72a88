import java.util.function.Function;

/** EXCEPTIONS: of several it is the one that the call names first, and a call that throws changes nothing. */
public final class UnchangedTest {
    private static final long NAN = 0x7ff8000000000000L;

    public static void main(String[] args) {
        refused("fit(12, 9)", Check.NONE, b -> b.fit(12, 9));
        refused("fit(-1, 0)", Check.NONE, b -> b.fit(-1, 0));
        refused("fit(3, 4)", Check.ARGUMENT, b -> b.fit(3, 4));
        refused("fit(5, 4)", Check.ARGUMENT, b -> b.fit(5, 4));
        refused("fit(1, -1)", Check.ARGUMENT, b -> b.fit(1, -1));
        refused("fit(1, 0)", Check.STATE, b -> b.fit(1, 0));
        refused("step(5, 9)", Check.NONE, b -> b.step(5, 9));
        refused("step(0, 8)", Check.ARGUMENT, b -> b.step(0, 8));
        refused("step(0, 1)", Check.ARGUMENT, b -> b.step(0, 1));
        refused("step(1, 4)", Check.ARGUMENT, b -> b.step(1, 4));
        refused("step(0, 5)", Check.STATE, b -> b.step(0, 5));
        refused("stepBy(5, 9, nan)", Check.NONE, b -> b.stepBy(5, 9, NAN));
        refused("stepBy(0, 0, 0)", Check.ARGUMENT, b -> b.stepBy(0, 0, 0L));
        refused("stepBy(0, 1, nan)", Check.ARGUMENT, b -> b.stepBy(0, 1, NAN));
        refused("stepBy(1, 1, nan)", Check.ARGUMENT, b -> b.stepBy(1, 1, NAN));
        refused("stepBy(0, 1, 0)", Check.STATE, b -> b.stepBy(0, 1, 0L));
        refused("stepOf(0, 9, 5)", Check.NONE, b -> b.stepOf(0, 9, 5));
        refused("stepOf(5, 9, 0)", Check.NONE, b -> b.stepOf(5, 9, 0));
        refused("stepOf(0, 9, 2)", Check.ARGUMENT, b -> b.stepOf(0, 9, 2));
        refused("stepOf(0, 1, 2)", Check.ARGUMENT, b -> b.stepOf(0, 1, 2));
        refused("stepOf(1, 0, 0)", Check.ARGUMENT, b -> b.stepOf(1, 0, 0));
        refused("stepOf(0, 1, 1)", Check.STATE, b -> b.stepOf(0, 1, 1));
        refused("bare(5)", Check.NONE, b -> b.bare(5));
        refused("read(5, nan)", Check.NONE, b -> b.read(5, NAN));
        refused("read(0, nan)", Check.ARGUMENT, b -> b.read(0, NAN));
        refused("read(2, nan)", Check.ARGUMENT, b -> b.read(2, NAN));
        refused("hand(0, 5)", Check.NONE, b -> b.hand(0, 5));
        refused("hand(5, 0)", Check.NONE, b -> b.hand(5, 0));
        refused("hand(5, 5)", Check.NONE, b -> b.hand(5, 5));
        refused("hand(0, 0)", Check.ARGUMENT, b -> b.hand(0, 0));
        refused("hand(0, 2)", Check.ARGUMENT, b -> b.hand(0, 2));
        refused("clear(5)", Check.NONE, b -> b.clear(5));
        refused("value(5)", Check.NONE, b -> b.value(5));
        refused("mark(5, true)", Check.NONE, b -> b.mark(5, true));
        refused("mark(1, true)", Check.STATE, b -> b.mark(1, true));
        refused("about(5, 6)", Check.NONE, b -> b.about(5, 6));
        refused("about(0, 6)", Check.ARGUMENT, b -> b.about(0, 6));
        refused("stepAt(5, 9, 3)", Check.NONE, b -> b.stepAt(5, 9, 3));
        refused("stepAt(0, 8, 3)", Check.NONE, b -> b.stepAt(0, 8, 3));
        refused("stepAt(0, 7, 3)", Check.ARGUMENT, b -> b.stepAt(0, 7, 3));
        refused("rank(5)", Check.NONE, b -> b.rank(5));
        refused("most(4, true)", Check.ARGUMENT, b -> b.most(4, true));
        refused("most(1, true)", Check.STATE, b -> b.most(1, true));
        Check.end();
    }

    private static void refused(String told, String want, Function<GaugeBoard, Object> call) {
        GaugeBoard board = prepared();
        Check.due(told, () -> call.apply(board), want);
        Check.same("the board behind " + told, Boards.look(board), Boards.look(prepared()));
        Check.same("readings behind " + told, readings(board), readings(prepared()));
    }

    // Gauge 0 is full of steps, gauge 1 is taken by it and has a step but no marks, gauge 2 is of another kind.
    private static GaugeBoard prepared() {
        GaugeBoard board = Boards.with(Boards.DOUBLE, Boards.DOUBLE, Boards.INT);
        board.stepBy(0, 1, Boards.d(-9.25));
        board.stepBy(0, 2, Boards.d(9.25));
        board.step(0, 7);
        board.stepOf(0, 1, 1);
        board.stepBy(0, 1, Boards.d(-0.0));
        board.step(0, 0);
        board.stepOf(0, 1, 0);
        board.stepOf(0, 4, 1);
        board.read(1, Boards.d(-3.5));
        board.clear(1);
        board.stepBy(1, 2, Boards.d(1.5));
        board.stepBy(2, 1, -100L);
        board.read(2, -200L);
        board.read(2, 300L);
        board.read(0, Boards.d(4.5));
        return board;
    }

    // What operands a gauge has can be seen by its readings alone.
    private static String readings(GaugeBoard board) {
        StringBuilder seen = new StringBuilder();
        for (double value : new double[] {-20, 20, -0.0, 2.5}) {
            seen.append(" ").append(board.read(0, Boards.d(value)));
            seen.append(" ").append(board.read(1, Boards.d(value)));
            seen.append(" ").append(board.read(2, (long) value * 10));
        }
        return seen.toString();
    }
}
