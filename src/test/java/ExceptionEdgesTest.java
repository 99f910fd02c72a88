/** EXCEPTIONS: gauges that are not there, of several the one that the call names first, boards that share nothing. */
public final class ExceptionEdgesTest {
    private static final String FIRST = "Of several the one that the call names first.";

    public static void main(String[] args) {
        notThere();
        fit();
        steps();
        readAndHand();
        telling();
        memoryIsTheBoardsOwn();
        Check.end();
    }

    /** The last place has a gauge; the one before it has none, and behind it there is no place. */
    private static void notThere() {
        for (String place : new String[] {"10", "12", "-1"}) {
            Edges.edge("every call", "NoSuchElementException: a gauge is not there (or no place for one).", """
                    fit 11 0 = false; step G 0 = none; stepBy G 1 0 = none; stepOf G 1 11 = none; stepOf 11 1 G = none
                    bare G = none; read G 0 = none; hand G 11 = none; hand 11 G = none; clear G = none; value G = none
                    mark G true = none; mark G false = none; about G 0 = none; stepAt G 0 0 = none; rank G = none
                    step 11 0 = 1; stepBy 11 1 0 = 2; stepOf 11 1 11 = 3; bare 11 = 3; read 11 0 = 0; value 11 = 0
                    mark 11 true = 0; clear 11 = true; about 11 0 = 0; rank 11 = 1; gauges = 1
                    """.replace("G", place));
        }
    }

    private static void fit() {
        Edges.edge("fit", FIRST, """
                fit -1 4 = none; fit 12 -1 = none
                fit 0 0 = false; fit 1 0 = false; stepOf 1 1 0 = 1; fit 0 4 = argument; fit 0 -1 = argument
                fit 0 3 = state
                """);
    }

    /** Gauge 0 has eight STEPS, gauge 1 is of another kind. */
    private static final String FULL = """
            fit 0 2 = false; fit 1 3 = false; step 0 0 = 1; step 0 0 = 2; step 0 0 = 3; step 0 0 = 4; step 0 0 = 5
            step 0 0 = 6; step 0 0 = 7; step 0 0 = 8;
            """;

    private static void steps() {
        Edges.edge("step", FIRST, FULL + """
                step 2 9 = none; step 2 1 = none; step -1 9 = none; step 0 9 = argument; step 0 5 = argument
                step 0 1 = argument; step 0 3 = state
                """);
        Edges.edge("stepBy", FIRST, FULL + """
                stepBy 2 9 -1 = none; stepBy 2 1 -1 = none; stepBy 12 0 0 = none; stepBy 0 9 0 = argument
                stepBy 0 0 0 = argument; stepBy 0 1 -1 = argument; stepBy 0 1 0x80000000 = argument
                stepBy 0 1 0 = state
                """);
        Edges.edge("stepOf", FIRST, FULL + """
                stepOf 2 9 0 = none; stepOf 0 9 2 = none; stepOf 0 0 -1 = none; stepOf 0 1 12 = none
                stepOf 2 1 1 = none
                stepOf 0 9 0 = argument; stepOf 0 0 0 = argument; stepOf 0 1 1 = argument; stepOf 0 1 0 = state
                """);
    }

    private static void readAndHand() {
        Edges.edge("read", FIRST, """
                read 0 -1 = none; fit 0 3 = false; read 1 0x7ff0000000000001 = none
                read 0 0x7ff0000000000001 = argument
                """);
        Edges.edge("hand", FIRST, """
                hand 5 5 = none; hand -1 -1 = none; hand 12 12 = none; fit 5 3 = false; hand 5 6 = none; hand 6 5 = none
                hand 5 5 = argument; fit 6 0 = false; hand 5 6 = argument
                """);
    }

    private static void telling() {
        Edges.edge("mark", FIRST, "mark 0 true = none; fit 0 0 = false; mark 0 true = state; mark 1 true = none");
        Edges.edge("about", FIRST, "about 0 6 = none; about -1 -1 = none; fit 0 0 = false; about 0 6 = argument");
        Edges.edge("stepAt", FIRST, """
                stepAt 0 0 3 = none; fit 0 0 = false; stepAt 0 0 3 = none; stepAt 0 -1 -1 = none; step 0 0 = 1
                stepAt 0 1 3 = none; stepAt 0 0 3 = argument; stepAt 1 0 3 = none; stepAt -1 -1 -1 = none
                """);
        Edges.edge("most", FIRST, "most 4 true = argument; most -1 false = argument; most 3 true = state");
    }

    private static void memoryIsTheBoardsOwn() {
        GaugeBoard one = Boards.with(Boards.DOUBLE, Boards.DOUBLE);
        String before = Boards.look(one);
        GaugeBoard other = Boards.with(Boards.DOUBLE, Boards.DOUBLE);
        other.stepOf(0, 4, 1);
        other.step(0, 7);
        other.read(0, Boards.d(-2.5));
        other.read(1, Boards.d(-1));
        other.hand(0, 1);
        Check.same("\"All memory is the board's own.\": a board beside one that is used", Boards.look(one), before);
        String used = Boards.look(other);
        one.fit(0, Boards.INT);
        one.stepBy(1, 1, Boards.d(8));
        one.read(1, Boards.d(3));
        Check.same("\"All memory is the board's own.\": a used board beside another", Boards.look(other), used);
        Check.due("\"All memory is the board's own.\": its next reading", () -> other.read(0, Boards.d(3.5)),
                Boards.d(4));
    }
}
