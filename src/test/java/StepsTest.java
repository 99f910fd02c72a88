/** Promises 3 (step), 4 (stepBy), 5 (stepOf), 6 (bare) and 13 (stepAt). */
public final class StepsTest {
    private static final int[] LAST_SORT = {2, 2, 4, 7};

    public static void main(String[] args) {
        sortsOfEachKind();
        eightStepsAndNoMore();
        goodBitsOfOperands();
        stepsOfGauges();
        bareTakesAllSteps();
        stepAtTellsEachStep();
        wrongStepAt();
        Check.end();
    }

    private static boolean wantsOperand(int sort) {
        return sort == 1 || sort == 2 || sort == 4;
    }

    private static void sortsOfEachKind() {
        int[] sorts = {Integer.MIN_VALUE, -1, 0, 1, 2, 3, 4, 5, 6, 7, 8, Integer.MAX_VALUE};
        for (int kind = 0; kind < 4; kind++) {
            for (int sort : sorts) {
                boolean has = sort >= 0 && sort <= LAST_SORT[kind];
                Object bare = has && !wantsOperand(sort) ? 1 : Check.ARGUMENT;
                Object with = has && wantsOperand(sort) ? 1 : Check.ARGUMENT;
                String told = " of sort " + sort + " for kind " + kind;
                int of = kind;
                Check.due("step" + told, () -> Boards.with(of).step(0, sort), bare);
                Check.due("stepBy" + told, () -> Boards.with(of).stepBy(0, sort, 0L), with);
                Check.due("stepOf" + told, () -> Boards.with(of, of).stepOf(0, sort, 1), with);
                Check.due("stepOf itself" + told, () -> Boards.with(of).stepOf(0, sort, 0), with);
            }
        }
    }

    private static void eightStepsAndNoMore() {
        for (int kind = 0; kind < 4; kind++) {
            GaugeBoard board = Boards.with(kind, kind);
            for (int k = 0; k < 8; k++) {
                int by = k % 3;
                Check.due("step " + k, () -> by == 0 ? board.step(0, 0)
                        : by == 1 ? board.stepBy(0, 1, 0L) : board.stepOf(0, 2, 1), k + 1);
            }
            Check.due("a ninth step", () -> board.step(0, 0), Check.STATE);
            Check.due("a ninth stepBy", () -> board.stepBy(0, 1, 0L), Check.STATE);
            Check.due("a ninth stepOf", () -> board.stepOf(0, 1, 1), Check.STATE);
            Check.due("about(0, 1) then", () -> board.about(0, 1), 8);
            Check.due("a step of another gauge", () -> board.step(1, 0), 1);
            wrongOnesComeAheadOfTheNinth(board);
        }
    }

    private static void wrongOnesComeAheadOfTheNinth(GaugeBoard board) {
        Check.due("step(0, 1) at eight", () -> board.step(0, 1), Check.ARGUMENT);
        Check.due("stepBy(0, 0, 0) at eight", () -> board.stepBy(0, 0, 0L), Check.ARGUMENT);
        Check.due("stepOf(0, 9, 1) at eight", () -> board.stepOf(0, 9, 1), Check.ARGUMENT);
        Check.due("stepOf(0, 1, 5) at eight", () -> board.stepOf(0, 1, 5), Check.NONE);
        Check.due("step(5, 1)", () -> board.step(5, 1), Check.NONE);
        Check.due("stepBy(-1, 0, 0)", () -> board.stepBy(-1, 0, 0L), Check.NONE);
        Check.due("stepOf(12, 0, 0)", () -> board.stepOf(12, 0, 0), Check.NONE);
        Check.due("stepOf(0, 0, 12)", () -> board.stepOf(0, 0, 12), Check.NONE);
        Check.due("stepOf(0, 0, -1)", () -> board.stepOf(0, 0, -1), Check.NONE);
    }

    private static void goodBitsOfOperands() {
        good(Boards.INT, 2147483647L, true);
        good(Boards.INT, 2147483648L, false);
        good(Boards.INT, -2147483648L, true);
        good(Boards.INT, -2147483649L, false);
        good(Boards.LONG, Long.MIN_VALUE, true);
        good(Boards.LONG, Long.MAX_VALUE, true);
        good(Boards.SINGLE, 0x7f800000L, true);
        good(Boards.SINGLE, 0x7f800001L, false);
        good(Boards.SINGLE, 0x80000000L, false);
        good(Boards.SINGLE, Boards.f(Float.NEGATIVE_INFINITY), true);
        good(Boards.SINGLE, Boards.f(Float.NEGATIVE_INFINITY) + 1, false);
        good(Boards.SINGLE, -1L, false);
        good(Boards.DOUBLE, 0x7ff0000000000000L, true);
        good(Boards.DOUBLE, 0x7ff0000000000001L, false);
        good(Boards.DOUBLE, 0xfff0000000000000L, true);
        good(Boards.DOUBLE, 0xfff0000000000001L, false);
        good(Boards.DOUBLE, -1L, false);
    }

    private static void good(int kind, long bits, boolean are) {
        Check.due("stepBy of kind " + kind + " by " + bits, () -> Boards.with(kind).stepBy(0, 1, bits),
                are ? 1 : Check.ARGUMENT);
    }

    private static void stepsOfGauges() {
        GaugeBoard board = Boards.with(0, 1, 2, 3);
        for (int g = 0; g < 4; g++) {
            for (int h = 0; h < 4; h++) {
                int of = g;
                int from = h;
                Check.due("stepOf(" + g + ", 1, " + h + ")", () -> board.stepOf(of, 1, from),
                        g == h ? 1 : Check.ARGUMENT);
            }
        }
    }

    private static void bareTakesAllSteps() {
        GaugeBoard board = Boards.with(Boards.INT, Boards.INT);
        Check.due("bare(0) without steps", () -> board.bare(0), 0);
        board.step(0, 0);
        board.stepOf(0, 1, 1);
        board.step(1, 0);
        board.read(0, -4L);
        Check.due("bare(0) of two steps", () -> board.bare(0), 2);
        Check.due("bare(0) again", () -> board.bare(0), 0);
        Check.due("about(0, 1) then", () -> board.about(0, 1), 0);
        Check.due("about(1, 5) then", () -> board.about(1, 5), 0);
        Check.due("about(1, 1) of the other gauge", () -> board.about(1, 1), 1);
        Check.due("stepAt(0, 0, 0) then", () -> board.stepAt(0, 0, 0), Check.NONE);
        Check.due("the VALUE stays", () -> board.value(0), 4);
        Check.due("the MARKS stay", () -> board.mark(0, true), 4);
        Check.due("READINGS stay", () -> board.about(0, 2), 1);
        Check.due("read(0, -4) then", () -> board.read(0, -4L), -4);
        Check.due("step(0, 0) then", () -> board.step(0, 0), 1);
        int[] nowhere = {-1, 2, 12, Integer.MIN_VALUE, Integer.MAX_VALUE};
        for (int g : nowhere) {
            Check.due("bare(" + g + ")", () -> board.bare(g), Check.NONE);
        }
    }

    private static void stepAtTellsEachStep() {
        GaugeBoard board = new GaugeBoard();
        board.fit(7, 3);
        board.fit(11, 3);
        board.fit(0, 3);
        board.step(7, 6);
        board.stepBy(7, 4, 0L);
        board.stepOf(7, 2, 11);
        board.stepOf(7, 1, 0);
        board.stepOf(7, 4, 7);
        board.step(7, 0);
        int[][] want = {{6, 0, -1}, {4, 1, -1}, {2, 2, 11}, {1, 2, 0}, {4, 2, 7}, {0, 0, -1}};
        for (int k = 0; k < want.length; k++) {
            for (int what = 0; what < 3; what++) {
                int at = k;
                int asked = what;
                Check.due("stepAt(7, " + k + ", " + what + ")", () -> board.stepAt(7, at, asked), want[k][what]);
            }
        }
        Check.due("stepAt(7, 6, 0)", () -> board.stepAt(7, 6, 0), Check.NONE);
        board.bare(7);
        board.step(7, 0);
        Check.due("stepAt(7, 0, 2) of a row used again", () -> board.stepAt(7, 0, 2), -1);
        board.stepBy(7, 1, 3L);
        board.stepBy(7, 2, 3L);
        Check.due("stepAt(7, 2, 1) of a row used again", () -> board.stepAt(7, 2, 1), 1);
    }

    private static void wrongStepAt() {
        GaugeBoard board = Boards.with(Boards.INT);
        board.step(0, 0);
        int[] wrong = {-1, 3, Integer.MIN_VALUE, Integer.MAX_VALUE};
        for (int number : wrong) {
            Check.due("stepAt(0, 0, " + number + ")", () -> board.stepAt(0, 0, number), Check.ARGUMENT);
            Check.due("stepAt(0, " + number + ", 0)", () -> board.stepAt(0, number, 0), Check.NONE);
            Check.due("stepAt(" + number + ", 0, 0)", () -> board.stepAt(number, 0, 0), Check.NONE);
        }
        Check.due("stepAt(0, 1, 3)", () -> board.stepAt(0, 1, 3), Check.NONE);
        Check.due("stepAt(0, 8, 0)", () -> board.stepAt(0, 8, 0), Check.NONE);
        Check.due("stepAt(1, 0, 3)", () -> board.stepAt(1, 0, 3), Check.NONE);
    }
}
