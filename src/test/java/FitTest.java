/** Promises 1 (a new object), 2 (fit) and 16 (gauges). */
public final class FitTest {
    public static void main(String[] args) {
        newBoardHasNoGauges();
        fitPutsGaugesAtAllPlaces();
        fitStartsAllAnew();
        stepsOfOthersStay();
        anotherKindIsRefusedWhileOthersTakeTheValue();
        ownStepsDoNotHinderAnotherKind();
        wrongPlacesAndKinds();
        boardsAreApart();
        Check.end();
    }

    private static void newBoardHasNoGauges() {
        GaugeBoard board = new GaugeBoard();
        Check.due("gauges() of a new board", board::gauges, 0);
        for (int g = -1; g <= 12; g++) {
            int at = g;
            Check.due("value(" + g + ") of a new board", () -> board.value(at), Check.NONE);
        }
        for (int kind = 0; kind < 4; kind++) {
            int of = kind;
            Check.due("most(" + kind + ") of a new board", () -> board.most(of, true), Check.STATE);
        }
    }

    private static void fitPutsGaugesAtAllPlaces() {
        GaugeBoard board = new GaugeBoard();
        for (int g = 11; g >= 0; g--) {
            int at = g;
            Check.due("fit(" + g + ")", () -> board.fit(at, at % 4), false);
            Check.due("gauges() behind fit(" + g + ")", board::gauges, 12 - g);
            Check.due("value(" + g + ")", () -> board.value(at), 0);
            Check.due("mark(" + g + ", true)", () -> board.mark(at, true), Check.STATE);
            Check.due("mark(" + g + ", false)", () -> board.mark(at, false), Check.STATE);
            for (int what = 0; what <= 5; what++) {
                int asked = what;
                Check.due("about(" + g + ", " + what + ")", () -> board.about(at, asked), what == 0 ? g % 4 : 0);
            }
        }
        Check.due("fit(3, 0) again", () -> board.fit(3, 0), true);
        Check.due("gauges() behind a place used again", board::gauges, 12);
    }

    private static void fitStartsAllAnew() {
        for (int kind = 0; kind < 4; kind++) {
            GaugeBoard used = Boards.with(Boards.INT);
            used.step(0, 0);
            used.stepBy(0, 2, 70L);
            used.read(0, -50L);
            used.bare(0);
            used.read(0, -60L);
            used.stepOf(0, 1, 0);
            int to = kind;
            Check.due("fit(0, " + kind + ") of a used gauge", () -> used.fit(0, to), true);
            Check.same("a gauge fitted anew", Boards.look(used), Boards.look(Boards.with(kind)));
            Check.due("the first reading then", () -> used.read(0, 5L), 5);
            Check.due("HIGH then", () -> used.mark(0, true), 5);
            Check.due("LOW then", () -> used.mark(0, false), 5);
        }
    }

    private static void stepsOfOthersStay() {
        GaugeBoard board = Boards.with(Boards.LONG, Boards.LONG);
        board.read(0, 40L);
        board.stepOf(1, 1, 0);
        Check.due("read NOT BELOW gauge 0", () -> board.read(1, 3L), 40);
        Check.due("fit(0, 1), the same kind", () -> board.fit(0, 1), true);
        Check.due("about(0, 5) then", () -> board.about(0, 5), 1);
        Check.due("stepAt(1, 0, 2) then", () -> board.stepAt(1, 0, 2), 0);
        Check.due("read NOT BELOW the new gauge 0", () -> board.read(1, -3L), 0);
    }

    private static void anotherKindIsRefusedWhileOthersTakeTheValue() {
        GaugeBoard board = Boards.with(Boards.DOUBLE, Boards.DOUBLE);
        board.stepOf(1, 4, 0);
        Check.due("fit(0, 2) while gauge 1 takes its VALUE", () -> board.fit(0, 2), Check.STATE);
        Check.due("fit(0, 3) while gauge 1 takes its VALUE", () -> board.fit(0, 3), true);
        Check.due("fit(1, 0) of the one that takes", () -> board.fit(1, 0), true);
        Check.due("fit(0, 2) when that one is gone", () -> board.fit(0, 2), true);
        board.fit(1, 2);
        board.stepOf(1, 1, 0);
        board.stepOf(0, 1, 0);
        Check.due("fit(0, 1) with a step of its own and another's", () -> board.fit(0, 1), Check.STATE);
        board.bare(1);
        Check.due("fit(0, 1) when the other one is bare", () -> board.fit(0, 1), true);
    }

    private static void ownStepsDoNotHinderAnotherKind() {
        GaugeBoard board = Boards.with(Boards.INT, Boards.INT);
        board.stepOf(0, 1, 0);
        board.stepOf(0, 2, 1);
        Check.due("fit(0, 3) with a step of its own VALUE", () -> board.fit(0, 3), true);
        Check.due("about(0, 5) then", () -> board.about(0, 5), 0);
        Check.due("about(1, 5) then", () -> board.about(1, 5), 0);
    }

    private static void wrongPlacesAndKinds() {
        GaugeBoard board = Boards.with(Boards.INT);
        int[] places = {-1, 12, Integer.MIN_VALUE, Integer.MAX_VALUE};
        int[] kinds = {-1, 4, Integer.MIN_VALUE, Integer.MAX_VALUE};
        for (int g : places) {
            Check.due("fit(" + g + ", 0)", () -> board.fit(g, 0), Check.NONE);
            Check.due("fit(" + g + ", 9)", () -> board.fit(g, 9), Check.NONE);
        }
        for (int kind : kinds) {
            Check.due("fit(0, " + kind + ")", () -> board.fit(0, kind), Check.ARGUMENT);
            Check.due("fit(1, " + kind + ")", () -> board.fit(1, kind), Check.ARGUMENT);
        }
        Check.due("gauges() behind wrong fits", board::gauges, 1);
    }

    private static void boardsAreApart() {
        GaugeBoard one = Boards.with(Boards.INT);
        GaugeBoard other = new GaugeBoard();
        one.read(0, 9L);
        Check.due("gauges() of another board", other::gauges, 0);
        other.fit(0, 0);
        Check.due("value(0) of another board", () -> other.value(0), 0);
    }
}
