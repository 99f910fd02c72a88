/** The boundary cases of the document's Terms: BITS and when they are GOOD, the ORDER, the SIGN, GAUGES, OPERANDS. */
public final class TermsEdgesTest {
    private static final String GOOD_RANGE =
            "BITS are GOOD for a kind, if they are from -2147483648 to 2147483647 (INT, SINGLE)";
    private static final String GOOD_REALS = "and if (SINGLE, DOUBLE) the bits of the exponent are not all 1 with some"
            + " of the fraction 1, too (so no VALUE is ever a NaN).";
    private static final String ORDER = "The ORDER is by size; of SINGLES and DOUBLES the infinite ones are first and"
            + " last, and -0 is below 0.";
    private static final String SIGN = "The SIGN of a VALUE is 1, if it is below 0 or -0 (of SINGLES and DOUBLES their"
            + " highest bit), else 0.";
    private static final String OPERAND = "a VALUE of the gauge's kind, or a gauge, whose VALUE is taken as it is when"
            + " the step is done (of itself: as it was ahead of the reading).";

    private static final String[] INTS_IN_ORDER = {
        "-2147483648", "-2147483647", "-2", "-1", "0", "1", "2", "2147483646", "2147483647",
    };
    private static final String[] LONGS_IN_ORDER = {
        "-9223372036854775808", "-9223372036854775807", "-2147483649", "-2147483648", "-1", "0", "1", "2147483647",
        "2147483648", "9223372036854775806", "9223372036854775807",
    };
    private static final String[] SINGLES_IN_ORDER = {
        "-inff", "-0x1.fffffep127f", "-1.0f", "-0x1p-126f", "-0x1p-149f", "-0.0f", "0.0f", "0x1p-149f", "0x1p-126f",
        "1.0f", "0x1.fffffep127f", "inff",
    };
    private static final String[] DOUBLES_IN_ORDER = {
        "-infd", "-0x1.fffffffffffffp1023d", "-1.0d", "-0x1p-1022d", "-0x1p-1074d", "-0.0d", "0.0d", "0x1p-1074d",
        "0x1p-1022d", "1.0d", "0x1.fffffffffffffp1023d", "infd",
    };

    public static void main(String[] args) {
        atMost512Calls();
        kindsAndBits();
        goodInts();
        goodLongs();
        goodRangeOfSingles();
        goodSingles();
        goodDoubles();
        inOrder(Boards.INT, INTS_IN_ORDER);
        inOrder(Boards.LONG, LONGS_IN_ORDER);
        inOrder(Boards.SINGLE, SINGLES_IN_ORDER);
        inOrder(Boards.DOUBLE, DOUBLES_IN_ORDER);
        signsOfWholeNumbers();
        signsOfReals();
        gaugesAtFirst();
        operandsOfOtherGauges();
        operandsOfTheGaugeItself();
        Check.end();
    }

    private static void atMost512Calls() {
        String sentence = "An object is used for at most 512 calls after it has been made";
        StringBuilder reads = new StringBuilder("fit 11 3 = false;");
        for (int i = 0; i < 510; i++) {
            reads.append(i % 2 == 0 ? "read 11 -0.0d = -0.0d;" : "read 11 0.0d = 0.0d;");
        }
        Edges.edge("What it is", sentence, reads + "about 11 2 = 510");
        Edges.edge("What it is", sentence, reads + "about 11 3 = 510");
        Edges.edge("What it is", sentence, "gauges = 0;".repeat(512));
        Edges.edge("What it is", sentence, "fit 12 0 = none;".repeat(511) + "fit 11 0 = false");
    }

    private static void kindsAndBits() {
        Edges.edge("Terms", "KINDS: 0 INT (32 bits), 1 LONG (64 bits), 2 SINGLE (a float), 3 DOUBLE.", """
                fit 0 -1 = argument; fit 0 4 = argument
                fit 0 0 = false; about 0 0 = 0; read 0 2147483647 = 2147483647; read 0 2147483648 = argument
                fit 1 1 = false; about 1 0 = 1; read 1 2147483648 = 2147483648; step 1 3 = argument
                fit 2 2 = false; about 2 0 = 2; read 2 0.1f = 0x3dcccccd; read 2 0.1d = argument
                fit 3 3 = false; about 3 0 = 3; read 3 0.1d = 0x3fb999999999999a; read 3 -1 = argument
                """);
        Edges.edge("Terms", "A VALUE is told by BITS, a long: of an INT or LONG it itself, of a SINGLE its 32 bits as"
                + " an int, of a DOUBLE its 64 bits.", """
                fit 0 0 = false; read 0 -1 = 0xffffffffffffffff; value 0 = -1
                fit 1 1 = false; read 1 -1 = 0xffffffffffffffff; value 1 = -1
                fit 2 2 = false; read 2 0xffffffff80000000 = -2147483648; value 2 = -0.0f
                read 2 0x3f800000 = 1.0f; read 2 0xffffffffbf800000 = -1.0f; value 2 = -1082130432
                fit 3 3 = false; read 3 0x8000000000000000 = -0.0d; value 3 = -9223372036854775808
                read 3 0x3ff0000000000000 = 1.0d; read 3 0xbff0000000000000 = -1.0d
                """);
    }

    private static void goodInts() {
        Edges.edge("Terms, of an INT", GOOD_RANGE, """
                fit 0 0 = false
                read 0 2147483647 = 2147483647
                read 0 2147483648 = argument
                read 0 -2147483648 = -2147483648
                read 0 -2147483649 = argument
                read 0 4294967295 = argument
                read 0 4294967296 = argument
                read 0 -4294967296 = argument
                read 0 9223372036854775807 = argument
                read 0 -9223372036854775808 = argument
                about 0 2 = 2; value 0 = -2147483648
                read 0 0x7f800001 = 2139095041
                read 0 0x7fc00000 = 2143289344
                stepBy 0 1 2147483648 = argument
                stepBy 0 1 -2147483649 = argument
                stepBy 0 2 2147483647 = 1
                stepBy 0 1 -2147483648 = 2
                """);
    }

    private static void goodLongs() {
        Edges.edge("Terms, of a LONG that the ends of INT do not bind", GOOD_RANGE, """
                fit 0 1 = false
                read 0 2147483648 = 2147483648
                read 0 -2147483649 = -2147483649
                read 0 9223372036854775807 = 9223372036854775807
                read 0 -9223372036854775808 = -9223372036854775808
                read 0 0x7ff0000000000001 = 0x7ff0000000000001
                read 0 0x7f800001 = 0x7f800001
                stepBy 0 1 -9223372036854775808 = 1
                stepBy 0 2 9223372036854775807 = 2
                """);
    }

    private static void goodRangeOfSingles() {
        Edges.edge("Terms, of a SINGLE", GOOD_RANGE, """
                fit 0 2 = false
                read 0 -2147483648 = -0.0f
                read 0 2147483648 = argument
                read 0 0xbf800000 = argument
                read 0 4294967296 = argument
                read 0 -4294967296 = argument
                read 0 0x13f800000 = argument
                read 0 -2147483649 = argument
                read 0 1.0d = argument
                read 0 -9223372036854775808 = argument
                about 0 2 = 1
                stepBy 0 4 2147483648 = argument
                stepBy 0 4 -4294967296 = argument
                stepBy 0 4 -2147483648 = 1
                """);
    }

    private static void goodSingles() {
        StringBuilder rows = new StringBuilder("fit 0 2 = false;");
        for (int bit = 0; bit < 23; bit++) {
            refusedBits(rows, 0x7f800000L | 1L << bit, 0xffffffffff800000L | 1L << bit);
        }
        refusedBits(rows, 0x7fffffffL, -1L);
        Edges.edge("Terms, of a SINGLE", GOOD_REALS, rows + """
                read 0 inff = 0x7f800000
                read 0 -inff = 0xffffffffff800000
                read 0 0x7f7fffff = 0x1.fffffep127f
                read 0 0xffffffffff7fffff = -0x1.fffffep127f
                read 0 0x7f000001 = 0x1.000002p127f
                stepBy 0 2 inff = 1; stepBy 0 1 -inff = 2; about 0 2 = 5
                """);
    }

    private static void goodDoubles() {
        StringBuilder rows = new StringBuilder("fit 0 3 = false;");
        for (int bit = 0; bit < 52; bit++) {
            refusedBits(rows, 0x7ff0000000000000L | 1L << bit, 0xfff0000000000000L | 1L << bit);
        }
        refusedBits(rows, 0x7fffffffffffffffL, -1L);
        Edges.edge("Terms, of a DOUBLE", GOOD_REALS, rows + """
                read 0 infd = 0x7ff0000000000000
                read 0 -infd = 0xfff0000000000000
                read 0 0x7fefffffffffffff = 0x1.fffffffffffffp1023d
                read 0 0xffefffffffffffff = -0x1.fffffffffffffp1023d
                read 0 0x7fe0000000000001 = 0x1.0000000000001p1023d
                read 0 0x7f800001 = 0x7f800001
                stepBy 0 2 infd = 1; stepBy 0 1 -infd = 2; about 0 2 = 6
                """);
    }

    private static void refusedBits(StringBuilder rows, long above, long below) {
        for (long bits : new long[] {above, below}) {
            rows.append("read 0 ").append(bits).append(" = argument;");
            rows.append("stepBy 0 1 ").append(bits).append(" = argument;");
        }
    }

    /** Each pair of the row must show its order wherever the document asks for it. */
    private static void inOrder(int kind, String[] row) {
        for (int a = 0; a < row.length; a++) {
            for (int b = a; b < row.length; b++) {
                Edges.edge("Terms, kind " + kind, ORDER, pairInOrder(kind, row[a], row[b], a == b));
                Edges.edge("Terms, kind " + kind, ORDER, marksInOrder(kind, row[a], row[b]));
            }
        }
    }

    private static String pairInOrder(int kind, String lower, String higher, boolean alike) {
        return """
                fit 3 K = false; fit 8 K = false; read 3 LOWER = LOWER; read 8 HIGHER = HIGHER
                rank 3 = FIRST; rank 8 = 2; most K true = HIGHER; most K false = LOWER
                stepOf 3 1 8 = 1; read 3 LOWER = HIGHER
                bare 3 = 1; stepOf 3 2 8 = 1; read 3 LOWER = LOWER
                stepOf 8 2 3 = 1; read 8 HIGHER = LOWER; bare 8 = 1; read 8 HIGHER = HIGHER
                stepOf 8 1 3 = 1; read 8 HIGHER = HIGHER
                bare 8 = 1; read 8 LOWER = LOWER; bare 3 = 1; read 3 HIGHER = HIGHER
                rank 3 = 2; rank 8 = FIRST; most K true = HIGHER; most K false = LOWER
                """.replace("K", String.valueOf(kind)).replace("LOWER", lower).replace("HIGHER", higher)
                .replace("FIRST", alike ? "2" : "1");
    }

    private static String marksInOrder(int kind, String lower, String higher) {
        return """
                fit 0 K = false; read 0 LOWER = LOWER; read 0 HIGHER = HIGHER
                mark 0 true = HIGHER; mark 0 false = LOWER; clear 0 = true
                read 0 HIGHER = HIGHER; read 0 LOWER = LOWER
                mark 0 true = HIGHER; mark 0 false = LOWER
                """.replace("K", String.valueOf(kind)).replace("LOWER", lower).replace("HIGHER", higher);
    }

    private static void signsOfWholeNumbers() {
        Edges.edge("Terms, of an INT and a LONG", SIGN, """
                fit 0 0 = false; about 0 4 = 0
                read 0 -1 = -1; about 0 4 = 1; read 0 0 = 0; about 0 4 = 0; read 0 1 = 1; about 0 4 = 0
                read 0 -2147483648 = -2147483648; about 0 4 = 1; read 0 2147483647 = 2147483647; about 0 4 = 0
                fit 1 1 = false; about 1 4 = 0
                read 1 -1 = -1; about 1 4 = 1; read 1 0 = 0; about 1 4 = 0; read 1 2147483648 = 2147483648
                about 1 4 = 0; read 1 -9223372036854775808 = -9223372036854775808; about 1 4 = 1
                read 1 9223372036854775807 = 9223372036854775807; about 1 4 = 0
                """);
    }

    private static void signsOfReals() {
        String rows = """
                fit 0 K = false; about 0 4 = 0
                read 0 -0.0X = -0.0X; about 0 4 = 1; read 0 0.0X = 0.0X; about 0 4 = 0
                read 0 -LEASTX = -LEASTX; about 0 4 = 1; read 0 LEASTX = LEASTX; about 0 4 = 0
                read 0 -infX = -infX; about 0 4 = 1; read 0 infX = infX; about 0 4 = 0
                read 0 -1.0X = -1.0X; about 0 4 = 1; read 0 1.0X = 1.0X; about 0 4 = 0
                """;
        Edges.edge("Terms, of a SINGLE", SIGN,
                rows.replace("K", "2").replace("LEAST", "0x1p-149").replace("X", "f"));
        Edges.edge("Terms, of a DOUBLE", SIGN,
                rows.replace("K", "3").replace("LEAST", "0x1p-1074").replace("X", "d"));
    }

    private static void gaugesAtFirst() {
        StringBuilder rows = new StringBuilder();
        for (int g = -1; g <= 12; g++) {
            rows.append("value ").append(g).append(" = none;");
        }
        Edges.edge("Terms", "GAUGES 0 .. 11 are not there at first.", rows.toString());
        for (int kind = 0; kind < 4; kind++) {
            Edges.edge("Terms, kind " + kind, "One that is there has a kind, a VALUE (0 at first), up to eight STEPS,"
                    + " two MARKS, HIGH and LOW, which are set or not (at first not), how many READINGS came, and its"
                    + " SWINGS.", """
                    fit 11 K = false
                    about 11 0 = K; value 11 = 0; about 11 4 = 0; about 11 1 = 0; stepAt 11 0 0 = none
                    mark 11 true = state; mark 11 false = state; clear 11 = false
                    about 11 2 = 0; about 11 3 = 0; about 11 5 = 0; rank 11 = 1; most K true = 0
                    stepBy 11 1 0 = 1; stepBy 11 1 0 = 2; stepBy 11 1 0 = 3; stepBy 11 1 0 = 4; stepBy 11 1 0 = 5
                    stepBy 11 1 0 = 6; stepBy 11 1 0 = 7; stepBy 11 1 0 = 8; stepBy 11 1 0 = state; about 11 1 = 8
                    """.replace("K", String.valueOf(kind)));
        }
    }

    private static void operandsOfOtherGauges() {
        Edges.edge("Terms", OPERAND, """
                fit 0 1 = false; fit 1 1 = false; read 1 5 = 5; stepOf 0 1 1 = 1; value 0 = 0
                read 0 -9 = 5; read 1 7 = 7; value 0 = 5; read 0 -9 = 7; read 1 -8 = -8; read 0 -9 = -8
                stepBy 1 1 100 = 1; read 0 -9 = -8; fit 1 1 = true; read 0 -9 = 0
                """);
        Edges.edge("Terms, two that take one another's VALUE", OPERAND, """
                fit 0 0 = false; fit 1 0 = false; stepOf 0 1 1 = 1; stepOf 1 1 0 = 1
                read 0 -3 = 0; read 1 4 = 4; read 0 -3 = 4; read 1 -9 = 4; read 0 6 = 6; read 1 -9 = 6
                """);
    }

    private static void operandsOfTheGaugeItself() {
        Edges.edge("Terms, of itself", OPERAND, """
                fit 0 0 = false; stepBy 0 1 10 = 1; stepOf 0 2 0 = 2; read 0 30 = 0; read 0 -30 = 0
                bare 0 = 2; read 0 20 = 20; stepBy 0 1 10 = 1; stepOf 0 2 0 = 2
                read 0 30 = 20; read 0 15 = 15; read 0 30 = 15; read 0 -30 = 10
                """);
        Edges.edge("Terms, of itself in the first and in the eighth STEP", OPERAND, """
                fit 0 3 = false; read 0 -2.0d = -2.0d; stepOf 0 4 0 = 1
                step 0 0 = 2; step 0 0 = 3; step 0 0 = 4; step 0 0 = 5; step 0 0 = 6; step 0 0 = 7; stepOf 0 4 0 = 8
                read 0 5.0d = -5.0d; read 0 0.0d = -0.0d; read 0 infd = -infd; read 0 -1.0d = -1.0d
                """);
    }
}
