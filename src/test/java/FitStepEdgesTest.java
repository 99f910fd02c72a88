/** The boundary cases that promises 1 to 6 and 13 name, sentence by sentence. */
public final class FitStepEdgesTest {
    private static final String EIGHT = """
            fit 0 3 = false; step 0 0 = 1; stepBy 0 1 0 = 2; stepOf 0 2 0 = 3; step 0 3 = 4; stepBy 0 4 0 = 5
            step 0 5 = 6; step 0 6 = 7; step 0 7 = 8;
            """;

    public static void main(String[] args) {
        newObject();
        fit();
        fitRefused();
        step();
        stepBy();
        stepOf();
        bare();
        stepAt();
        Check.end();
    }

    private static void newObject() {
        Edges.edge("Promise 1", "No gauges.", """
                gauges = 0; value 0 = none; value 11 = none; rank 0 = none; bare 5 = none; hand 0 1 = none
                most 0 true = state; most 1 true = state; most 2 false = state; most 3 false = state; gauges = 0
                """);
    }

    private static void fit() {
        Edges.edge("Promise 2: fit", "A gauge of a kind is put at a place, all as at first;", """
                fit 0 0 = false; step 0 0 = 1; stepBy 0 2 9 = 2; stepOf 0 1 0 = 3; read 0 -20 = 9; bare 0 = 3
                read 0 -20 = -20; step 0 0 = 1
                fit 0 0 = true; value 0 = 0; about 0 0 = 0; about 0 1 = 0; about 0 2 = 0; about 0 3 = 0; about 0 4 = 0
                about 0 5 = 0; mark 0 true = state; mark 0 false = state; clear 0 = false; stepAt 0 0 0 = none
                read 0 -3 = -3; mark 0 true = -3; mark 0 false = -3; about 0 2 = 1; about 0 3 = 1
                """);
        Edges.edge("Promise 2: fit, of another kind", "A gauge of a kind is put at a place, all as at first;", """
                fit 0 3 = false; read 0 -0.0d = -0.0d; fit 0 2 = true; value 0 = 0; about 0 0 = 2; about 0 3 = 0
                read 0 0.0f = 0.0f; about 0 3 = 0; mark 0 true = 0.0f; step 0 5 = argument; most 3 true = state
                fit 0 1 = true; value 0 = 0; read 0 4294967296 = 4294967296; fit 0 0 = true; value 0 = 0
                read 0 4294967296 = argument; rank 0 = 1
                """);
        Edges.edge("Promise 2: fit",
                "one that was there is gone (STEPS of others that take its VALUE stay as they are)", """
                fit 0 1 = false; fit 1 1 = false; read 0 40 = 40; stepBy 1 2 90 = 1; stepOf 1 1 0 = 2; read 1 3 = 40
                fit 0 1 = true; about 0 5 = 1; about 1 1 = 2; stepAt 1 1 0 = 1; stepAt 1 1 1 = 2; stepAt 1 1 2 = 0
                value 1 = 40; read 1 -3 = 0; read 0 7 = 7; read 1 -3 = 7; gauges = 2
                """);
        Edges.edge("Promise 2: fit", "whether one was there.", """
                fit 11 0 = false; fit 11 0 = true; fit 11 3 = true; fit 0 1 = false; fit 0 1 = true; gauges = 2
                """);
    }

    private static void fitRefused() {
        Edges.edge("Promise 2: fit", "NoSuchElementException: there is no such place.", """
                fit -1 0 = none; fit 12 0 = none; fit -2147483648 0 = none; fit 2147483647 0 = none; gauges = 0
                fit 0 0 = false; fit 11 0 = false; gauges = 2
                """);
        Edges.edge("Promise 2: fit", "IllegalArgumentException: there is no such kind.", """
                fit 0 -1 = argument; fit 0 4 = argument; fit 0 -2147483648 = argument; fit 0 2147483647 = argument
                gauges = 0; fit 0 0 = false; fit 0 4 = argument; fit 0 -1 = argument; about 0 0 = 0; fit 0 3 = true
                """);
        String taken = "IllegalStateException: a STEP of another gauge takes its VALUE, and it is to be of another kind"
                + " than before.";
        Edges.edge("Promise 2: fit, a STEP of another gauge", taken, """
                fit 0 3 = false; fit 1 3 = false; read 0 8.0d = 8.0d; stepOf 1 4 0 = 1
                fit 0 0 = state; fit 0 1 = state; fit 0 2 = state; value 0 = 8.0d; about 0 0 = 3; about 0 2 = 1
                fit 0 3 = true; value 0 = 0.0d; fit 0 2 = state; bare 1 = 1; fit 0 2 = true; about 0 0 = 2
                """);
        Edges.edge("Promise 2: fit, a STEP of its own is none of another gauge", taken, """
                fit 0 0 = false; stepOf 0 1 0 = 1; about 0 5 = 1; fit 0 3 = true; about 0 5 = 0; about 0 1 = 0
                """);
        Edges.edge("Promise 2: fit, a STEP of its own and one of another gauge", taken, """
                fit 0 0 = false; fit 11 0 = false; stepOf 0 1 0 = 1; stepOf 0 2 0 = 2; stepOf 11 2 0 = 1
                about 0 5 = 3; fit 0 1 = state; about 0 1 = 2; fit 11 1 = true; about 0 5 = 2; fit 0 1 = true
                about 0 5 = 0
                """);
        Edges.edge("Promise 2: fit, the one that takes may go", taken, """
                fit 0 2 = false; fit 1 2 = false; stepOf 1 1 0 = 1; fit 1 0 = true; about 0 5 = 0; fit 0 0 = true
                """);
        Edges.edge("Promise 2: fit, a STEP by a VALUE takes no gauge's", taken, """
                fit 0 0 = false; fit 1 0 = false; stepBy 1 1 0 = 1; fit 0 3 = true
                """);
        Edges.edge("Promise 2: fit, the last one of the eight STEPS of the last gauge", taken, """
                fit 4 1 = false; fit 11 1 = false; step 11 0 = 1; step 11 0 = 2; step 11 0 = 3; step 11 0 = 4
                step 11 0 = 5; step 11 0 = 6; step 11 0 = 7; stepOf 11 2 4 = 8; fit 4 0 = state; fit 4 1 = true
                """);
    }

    private static void step() {
        Edges.edge("Promise 3: step", "A STEP without an OPERAND comes behind a gauge's STEPS: how many there are.", """
                fit 0 3 = false; step 0 0 = 1; step 0 3 = 2; step 0 0 = 3; about 0 1 = 3
                stepAt 0 0 0 = 0; stepAt 0 1 0 = 3; stepAt 0 2 0 = 0; stepAt 0 1 1 = 0; stepAt 0 1 2 = -1
                value 0 = 0.0d
                """);
        Edges.nowhere("Promise 3: step", "NoSuchElementException;", 3, "step G 0");
        String refused = "IllegalArgumentException: its kind has no such sort, or it wants an OPERAND.";
        Edges.edge("Promise 3: step", refused, """
                fit 0 0 = false; step 0 -1 = argument; step 0 3 = argument; step 0 8 = argument; step 0 1 = argument
                step 0 2 = argument; step 0 -2147483648 = argument; step 0 2147483647 = argument
                fit 1 2 = false; step 1 5 = argument; step 1 4 = argument; step 1 1 = argument; step 1 3 = 1
                fit 2 3 = false; step 2 8 = argument; step 2 4 = argument; step 2 2 = argument; step 2 7 = 1
                about 0 1 = 0; about 1 1 = 1; about 2 1 = 1
                """);
        Edges.edge("Promise 3: step", "IllegalStateException: there are eight.", EIGHT + """
                step 0 0 = state; step 0 7 = state; about 0 1 = 8; bare 0 = 8; step 0 0 = 1
                """);
    }

    private static void stepBy() {
        Edges.edge("Promise 4: stepBy", "A STEP with a VALUE as its OPERAND, likewise.", """
                fit 0 0 = false; stepBy 0 1 -4 = 1; stepBy 0 2 4 = 2; about 0 1 = 2; stepAt 0 0 0 = 1; stepAt 0 0 1 = 1
                stepAt 0 0 2 = -1; stepAt 0 1 0 = 2; read 0 -9 = -4; read 0 9 = 4; value 0 = 4; about 0 5 = 0
                """);
        Edges.nowhere("Promise 4: stepBy", "A STEP with a VALUE as its OPERAND, likewise.", 3, "stepBy G 1 0");
        Edges.edge("Promise 4: stepBy, there are eight", "A STEP with a VALUE as its OPERAND, likewise.", EIGHT + """
                stepBy 0 1 0 = state; stepBy 0 4 -0.0d = state; about 0 1 = 8; read 0 -0.5d = 0.0d
                bare 0 = 8; stepBy 0 1 0 = 1
                """);
        String refused =
                "IllegalArgumentException: its kind has no such sort, or it wants none, or the BITS are not GOOD.";
        Edges.edge("Promise 4: stepBy, no such sort, or one that wants none", refused, """
                fit 0 1 = false; stepBy 0 -1 0 = argument; stepBy 0 3 0 = argument; stepBy 0 4 0 = argument
                stepBy 0 8 0 = argument; stepBy 0 0 0 = argument; stepBy 0 -2147483648 0 = argument
                stepBy 0 2147483647 0 = argument; about 0 1 = 0
                fit 1 3 = false; stepBy 1 0 0 = argument; stepBy 1 3 0 = argument; stepBy 1 5 0 = argument
                stepBy 1 6 0 = argument; stepBy 1 7 0 = argument; stepBy 1 8 0 = argument; about 1 1 = 0
                """);
        Edges.edge("Promise 4: stepBy, BITS that are not GOOD", refused, """
                fit 0 0 = false; stepBy 0 1 2147483648 = argument; stepBy 0 1 -2147483649 = argument
                fit 1 2 = false; stepBy 1 1 2147483648 = argument; stepBy 1 4 0x7f800001 = argument
                stepBy 1 2 -1 = argument; stepBy 1 1 1.0d = argument
                fit 2 3 = false; stepBy 2 1 0x7ff0000000000001 = argument; stepBy 2 4 0xfff8000000000000 = argument
                stepBy 2 2 -1 = argument; about 0 1 = 0; about 1 1 = 0; about 2 1 = 0
                """);
    }

    private static void stepOf() {
        String likewise = "A STEP that takes the VALUE of gauge h, likewise.";
        Edges.edge("Promise 5: stepOf", likewise, """
                fit 0 0 = false; fit 11 0 = false; stepOf 0 1 11 = 1; stepOf 0 2 0 = 2; about 0 1 = 2; about 11 1 = 0
                stepAt 0 0 0 = 1; stepAt 0 0 1 = 2; stepAt 0 0 2 = 11; stepAt 0 1 2 = 0; about 11 5 = 1; about 0 5 = 1
                """);
        Edges.edge("Promise 5: stepOf, there are eight", likewise, EIGHT + """
                fit 1 3 = false; stepOf 0 1 0 = state; stepOf 0 4 1 = state; about 0 1 = 8; about 1 5 = 0
                about 0 5 = 1; bare 0 = 8; stepOf 0 1 1 = 1
                """);
        Edges.nowhere("Promise 5: stepOf", "NoSuchElementException: g or h is not there.", 3, "stepOf G 1 0");
        Edges.nowhere("Promise 5: stepOf", "NoSuchElementException: g or h is not there.", 3, "stepOf 0 1 G");
        Edges.nowhere("Promise 5: stepOf", "NoSuchElementException: g or h is not there.", 3, "stepOf G 1 G");
        String refused =
                "IllegalArgumentException: its kind has no such sort, or it wants none, or h is of another kind.";
        Edges.edge("Promise 5: stepOf, no such sort, or one that wants none", refused, """
                fit 0 2 = false; fit 1 2 = false; stepOf 0 -1 1 = argument; stepOf 0 5 1 = argument
                stepOf 0 8 1 = argument; stepOf 0 0 1 = argument; stepOf 0 3 1 = argument
                stepOf 0 -2147483648 1 = argument; stepOf 0 2147483647 1 = argument; stepOf 0 4 1 = 1; about 1 5 = 1
                """);
        Edges.edge("Promise 5: stepOf, h of another kind", refused, """
                fit 0 0 = false; fit 1 1 = false; fit 2 2 = false; fit 3 3 = false
                stepOf 0 1 1 = argument; stepOf 0 1 2 = argument; stepOf 0 1 3 = argument
                stepOf 1 1 0 = argument; stepOf 1 1 2 = argument; stepOf 1 1 3 = argument
                stepOf 2 1 0 = argument; stepOf 2 1 1 = argument; stepOf 2 1 3 = argument
                stepOf 3 1 0 = argument; stepOf 3 1 1 = argument; stepOf 3 1 2 = argument
                about 0 5 = 0; about 1 5 = 0; about 2 5 = 0; about 3 5 = 0
                stepOf 0 1 0 = 1; stepOf 1 1 1 = 1; stepOf 2 1 2 = 1; stepOf 3 1 3 = 1
                """);
    }

    private static void bare() {
        Edges.edge("Promise 6: bare", "A gauge's STEPS are gone: how many there were.", """
                fit 0 0 = false; fit 1 0 = false; bare 0 = 0; step 0 0 = 1; stepOf 0 1 1 = 2; read 0 -6 = 6
                stepOf 1 1 0 = 1; bare 0 = 2; bare 0 = 0; about 0 1 = 0; stepAt 0 0 0 = none; about 1 5 = 0
                about 0 5 = 1
                value 0 = 6; mark 0 true = 6; about 0 2 = 1; read 0 -6 = -6; about 1 1 = 1
                """);
        Edges.edge("Promise 6: bare, of eight", "A gauge's STEPS are gone: how many there were.", EIGHT + """
                bare 0 = 8; about 0 1 = 0; stepAt 0 0 0 = none; stepAt 0 7 0 = none; step 0 0 = 1; stepAt 0 1 0 = none
                """);
        Edges.nowhere("Promise 6: bare", "NoSuchElementException.", 0, "bare G");
    }

    private static void stepAt() {
        String sentence = "Of STEP k of a gauge (the first one is 0): its sort (what = 0); its OPERAND: 0 none, 1 a"
                + " VALUE, 2 a gauge (1); that gauge, else -1 (2).";
        Edges.edge("Promise 13: stepAt", sentence, EIGHT + """
                stepAt 0 0 0 = 0; stepAt 0 0 1 = 0; stepAt 0 0 2 = -1; stepAt 0 1 0 = 1; stepAt 0 1 1 = 1
                stepAt 0 1 2 = -1; stepAt 0 2 0 = 2; stepAt 0 2 1 = 2; stepAt 0 2 2 = 0; stepAt 0 4 0 = 4
                stepAt 0 4 1 = 1; stepAt 0 7 0 = 7; stepAt 0 7 1 = 0; stepAt 0 7 2 = -1
                bare 0 = 8; fit 11 3 = false; stepOf 0 4 11 = 1; stepAt 0 0 0 = 4; stepAt 0 0 1 = 2; stepAt 0 0 2 = 11
                """);
        String nothing = "NoSuchElementException: there is no such gauge or STEP.";
        Edges.nowhere("Promise 13: stepAt", nothing, 0, "stepAt G 0 0");
        Edges.nowhere("Promise 13: stepAt", nothing, 0, "stepAt 0 G 0");
        Edges.edge("Promise 13: stepAt, of eight STEPS", nothing, EIGHT + """
                stepAt 0 8 0 = none; stepAt 0 -1 0 = none; stepAt 0 2147483647 1 = none; stepAt 0 -2147483648 2 = none
                stepAt 0 7 0 = 7; bare 0 = 8; stepAt 0 0 0 = none; stepAt 0 7 0 = none; step 0 3 = 1; stepAt 0 0 0 = 3
                stepAt 0 1 0 = none
                """);
        Edges.edge("Promise 13: stepAt", "IllegalArgumentException: another what.", """
                fit 0 0 = false; step 0 0 = 1; stepAt 0 0 -1 = argument; stepAt 0 0 3 = argument
                stepAt 0 0 -2147483648 = argument; stepAt 0 0 2147483647 = argument; stepAt 0 0 2 = -1
                """);
    }
}
