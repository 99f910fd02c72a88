/** The boundary cases that promises 7 to 12 and 14 to 16 name, sentence by sentence. */
public final class ReadTellEdgesTest {
    private static final String NONE = "NoSuchElementException.";

    public static void main(String[] args) {
        read();
        hand();
        handRefused();
        clear();
        value();
        mark();
        about();
        aboutStepsOfAllGauges();
        rank();
        most();
        gauges();
        Check.end();
    }

    private static void read() {
        Edges.edge("Promise 7: read", "A READING comes to a gauge: its VALUE then.", """
                fit 0 0 = false; read 0 5 = 5; value 0 = 5; stepBy 0 2 -1 = 1; value 0 = 5; read 0 5 = -1; value 0 = -1
                fit 1 0 = false; value 1 = 0; read 1 3 = 3; value 0 = -1
                """);
        Edges.nowhere("Promise 7: read", "NoSuchElementException;", 0, "read G 0");
        Edges.edge("Promise 7: read", "IllegalArgumentException: the BITS are not GOOD.", """
                fit 0 0 = false; read 0 2147483648 = argument; read 0 -2147483649 = argument
                fit 1 2 = false; read 1 2147483648 = argument; read 1 0x7f800001 = argument; read 1 -1 = argument
                fit 2 3 = false; read 2 0x7ff0000000000001 = argument; read 2 -1 = argument
                about 0 2 = 0; about 1 2 = 0; about 2 2 = 0; mark 0 true = state; mark 1 true = state
                """);
    }

    private static void hand() {
        Edges.edge("Promise 8: hand", "The VALUE of g is HANDED ON to h: its VALUE then.", """
                fit 0 0 = false; fit 11 3 = false; read 0 -3 = -3; step 11 0 = 1; hand 0 11 = 3.0d; value 11 = 3.0d
                value 0 = -3; about 0 2 = 1; about 11 2 = 1
                """);
        String nobody = "NoSuchElementException: one is not there.";
        Edges.nowhere("Promise 8: hand", nobody, 0, "hand 0 G");
        Edges.nowhere("Promise 8: hand", nobody, 0, "hand G 0");
        Edges.nowhere("Promise 8: hand", nobody, 0, "hand G G");
    }

    private static void handRefused() {
        String refused = "IllegalArgumentException: they are the same, or it can't be handed on.";
        Edges.edge("Promise 8: hand, the same", refused, """
                fit 0 0 = false; fit 1 1 = false; fit 2 2 = false; fit 3 3 = false; hand 0 0 = argument
                hand 1 1 = argument; hand 2 2 = argument; hand 3 3 = argument; about 0 2 = 0; about 3 2 = 0
                """);
        Edges.edge("Promise 8: hand, back to a kind that it can't go to", refused, """
                fit 0 0 = false; fit 1 1 = false; fit 2 2 = false; fit 3 3 = false
                hand 1 0 = argument; hand 2 0 = argument; hand 2 1 = argument
                hand 3 0 = argument; hand 3 1 = argument; hand 3 2 = argument
                about 0 2 = 0; about 1 2 = 0; about 2 2 = 0; mark 0 true = state
                hand 0 1 = 0; hand 0 2 = 0.0f; hand 0 3 = 0.0d; hand 1 2 = 0.0f; hand 1 3 = 0.0d; hand 2 3 = 0.0d
                """);
    }

    private static void clear() {
        Edges.edge("Promise 9: clear", "A gauge's MARKS are not set any more: whether they were.", """
                fit 0 0 = false; fit 1 0 = false; clear 0 = false; read 0 -5 = -5; read 1 2 = 2; clear 0 = true
                clear 0 = false; mark 0 true = state; mark 0 false = state; value 0 = -5; about 0 2 = 1; about 0 3 = 1
                mark 1 true = 2; mark 1 false = 2; read 0 -9 = -9; mark 0 true = -9; mark 0 false = -9
                fit 0 0 = true; clear 0 = false
                """);
        Edges.nowhere("Promise 9: clear", NONE, 0, "clear G");
    }

    private static void value() {
        Edges.edge("Promise 10: value", "A gauge's VALUE.", """
                fit 0 2 = false; value 0 = 0; read 0 -0.0f = -0.0f; value 0 = -2147483648; read 0 inff = inff
                value 0 = inff; read 0 -1 = argument; value 0 = inff; clear 0 = true; value 0 = inff; value 0 = inff
                """);
        Edges.nowhere("Promise 10: value", NONE, 0, "value G");
    }

    private static void mark() {
        Edges.edge("Promise 11: mark", "A gauge's HIGH (high) or LOW.", """
                fit 0 1 = false; read 0 1 = 1; read 0 9223372036854775807 = 9223372036854775807
                read 0 -9223372036854775808 = -9223372036854775808; read 0 0 = 0
                mark 0 true = 9223372036854775807; mark 0 false = -9223372036854775808
                """);
        Edges.nowhere("Promise 11: mark", "NoSuchElementException;", 0, "mark G true");
        Edges.nowhere("Promise 11: mark", "NoSuchElementException;", 0, "mark G false");
        Edges.edge("Promise 11: mark", "IllegalStateException: it is not set.", """
                fit 0 0 = false; mark 0 true = state; mark 0 false = state; read 0 0 = 0; mark 0 true = 0
                mark 0 false = 0; clear 0 = true; mark 0 true = state; mark 0 false = state
                read 0 4 = 4; mark 0 true = 4; fit 0 0 = true; mark 0 true = state; mark 0 false = state
                """);
    }

    private static void about() {
        Edges.edge("Promise 12: about",
                "Of a gauge: its kind (what = 0), STEPS (1), READINGS (2), SWINGS (3), its SIGN (4)", """
                fit 0 3 = false; read 0 3.0d = 3.0d; read 0 -0.0d = -0.0d; read 0 -4.0d = -4.0d; read 0 1.0d = 1.0d
                read 0 -0.0d = -0.0d; step 0 0 = 1; step 0 3 = 2
                about 0 0 = 3; about 0 1 = 2; about 0 2 = 5; about 0 3 = 3; about 0 4 = 1; about 0 5 = 0
                read 0 -0.0d = 0.0d; about 0 4 = 0; about 0 3 = 4; about 0 2 = 6
                """);
        Edges.nowhere("Promise 12: about", "NoSuchElementException;", 0, "about G 0");
        Edges.nowhere("Promise 12: about", "NoSuchElementException;", 0, "about G 5");
        Edges.edge("Promise 12: about", "IllegalArgumentException: another what.", """
                fit 0 0 = false; about 0 -1 = argument; about 0 6 = argument; about 0 -2147483648 = argument
                about 0 2147483647 = argument; about 0 0 = 0; about 0 5 = 0
                """);
    }

    private static void aboutStepsOfAllGauges() {
        String sentence = "how many STEPS of all gauges take its VALUE (5).";
        Edges.edge("Promise 12: about, its own STEPS too", sentence, """
                fit 0 0 = false; about 0 5 = 0; stepOf 0 1 0 = 1; about 0 5 = 1; stepOf 0 2 0 = 2; about 0 5 = 2
                fit 1 0 = false; stepOf 1 1 0 = 1; about 0 5 = 3; stepOf 1 1 1 = 2; about 0 5 = 3; about 1 5 = 1
                bare 0 = 2; about 0 5 = 1; bare 1 = 2; about 0 5 = 0
                """);
        Edges.edge("Promise 12: about, STEPS by a VALUE and without an OPERAND take none", sentence, """
                fit 0 0 = false; fit 1 0 = false; step 1 0 = 1; stepBy 1 1 0 = 2; stepBy 0 1 0 = 1; about 0 5 = 0
                about 1 5 = 0
                """);
        Edges.edge("Promise 12: about, a gauge fitted anew", sentence, """
                fit 0 0 = false; fit 1 0 = false; stepOf 0 1 0 = 1; stepOf 1 1 0 = 1; about 0 5 = 2; fit 0 0 = true
                about 0 5 = 1; fit 1 3 = true; about 0 5 = 0
                """);
        StringBuilder full = new StringBuilder();
        for (int g = 0; g < 12; g++) {
            full.append("fit ").append(g).append(" 1 = false;");
        }
        for (int g = 0; g < 12; g++) {
            for (int k = 1; k <= 8; k++) {
                full.append("stepOf ").append(g).append(" 1 11 = ").append(k).append(";");
            }
        }
        Edges.edge("Promise 12: about, all STEPS of a full board", sentence, full + """
                about 11 5 = 96; about 0 5 = 0; bare 11 = 8; about 11 5 = 88; fit 11 0 = state; fit 11 1 = true
                """);
    }

    private static void rank() {
        String sentence =
                "How many gauges of g's kind, g too, have a VALUE that is not above g's by the ORDER.";
        Edges.edge("Promise 14: rank, alone and alike", sentence, """
                fit 0 0 = false; rank 0 = 1; fit 1 1 = false; rank 0 = 1; rank 1 = 1; fit 2 0 = false; rank 0 = 2
                rank 2 = 2
                read 0 1 = 1; rank 0 = 2; rank 2 = 1; read 2 2 = 2; rank 0 = 1; rank 2 = 2; read 1 -5 = -5; rank 0 = 1
                fit 2 3 = true; rank 0 = 1; rank 2 = 1
                """);
        Edges.edge("Promise 14: rank, zeros with their signs", sentence, """
                fit 0 3 = false; fit 1 3 = false; rank 0 = 2; read 0 -0.0d = -0.0d; rank 0 = 1; rank 1 = 2
                fit 2 2 = false; fit 3 2 = false; rank 2 = 2; read 2 -0.0f = -0.0f; rank 2 = 1; rank 3 = 2
                """);
        StringBuilder twelve = new StringBuilder();
        for (int g = 0; g < 12; g++) {
            twelve.append("fit ").append(g).append(" 3 = false;");
            twelve.append("rank ").append(g).append(" = ").append(g + 1).append(";");
        }
        Edges.edge("Promise 14: rank, of twelve", sentence, twelve + """
                rank 0 = 12; rank 11 = 12; read 11 -infd = -infd; rank 11 = 1; rank 0 = 12; read 0 infd = infd
                rank 0 = 12
                rank 5 = 11; read 0 -infd = -infd; rank 0 = 2; rank 11 = 2
                """);
        Edges.nowhere("Promise 14: rank", NONE, 0, "rank G");
    }

    private static void most() {
        String sentence = "The highest (high) or lowest VALUE by the ORDER of all gauges of a kind.";
        Edges.edge("Promise 15: most, of one, and by kinds", sentence, """
                fit 11 0 = false; most 0 true = 0; most 0 false = 0; read 11 -7 = -7; most 0 true = -7
                most 0 false = -7
                fit 0 1 = false; read 0 9 = 9; most 0 true = -7; most 1 false = 9; fit 5 0 = false; most 0 true = 0
                most 0 false = -7; read 5 -8 = -8; most 0 true = -7; most 0 false = -8; fit 11 0 = true; most 0 true = 0
                """);
        String reals = """
                fit 3 K = false; fit 7 K = false; read 3 -0.0X = -0.0X; most K true = 0.0X; most K false = -0.0X
                read 7 -0.0X = -0.0X; most K true = -0.0X; read 3 0.0X = 0.0X; most K true = 0.0X; most K false = -0.0X
                read 3 -infX = -infX; most K false = -infX; read 7 infX = infX; most K true = infX
                """;
        Edges.edge("Promise 15: most, of SINGLES", sentence, reals.replace("K", "2").replace("X", "f"));
        Edges.edge("Promise 15: most, of DOUBLES", sentence, reals.replace("K", "3").replace("X", "d"));
        Edges.edge("Promise 15: most", "IllegalArgumentException: there is no such kind.", """
                most -1 true = argument; most 4 true = argument; most -2147483648 false = argument
                most 2147483647 false = argument; fit 0 0 = false; most -1 false = argument; most 4 false = argument
                """);
        Edges.edge("Promise 15: most", "IllegalStateException: there is no such gauge.", """
                most 0 true = state; most 3 false = state; fit 0 1 = false; most 0 true = state; most 2 true = state
                most 1 true = 0; fit 0 2 = true; most 1 true = state; most 1 false = state; most 2 false = 0
                """);
    }

    private static void gauges() {
        StringBuilder rows = new StringBuilder("gauges = 0;");
        for (int g = 11; g >= 0; g--) {
            rows.append("fit ").append(g).append(" ").append(g % 4).append(" = false;");
            rows.append("gauges = ").append(12 - g).append(";");
        }
        Edges.edge("Promise 16: gauges", "How many gauges are there.", rows + """
                fit 12 0 = none; fit 0 4 = argument; gauges = 12; fit 0 3 = true; gauges = 12
                """);
    }
}
