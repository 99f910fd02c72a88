/** The boundary cases of each sort of STEP. */
public final class SortsEdgesTest {
    private static final String SIZE = "0 SIZE: without a sign (the least INT and the least LONG stay).";
    private static final String NOT_BELOW = "1 NOT BELOW, with an OPERAND: the higher one of both by the ORDER.";
    private static final String NOT_ABOVE = "2 NOT ABOVE, with an OPERAND: the lower one.";
    private static final String SHOW = "3 SHOW: 1, 0 or -1, as it is above 0, a zero, below 0; a zero itself.";
    private static final String LIKE = "4 LIKE, with an OPERAND: its SIZE, with the SIGN of the OPERAND.";
    private static final String DOWN = "5 DOWN: the highest whole number not above it.";
    private static final String UP = "6 UP: the lowest not below it; what comes to a zero from below is -0.";
    private static final String EVEN =
            "7 EVEN: the nearest whole number, of two the even one, with its SIGN if that is a zero.";
    private static final String STAY = "Zeros, infinite VALUES, and those that are whole stay themselves in 5, 6, 7.";
    private static final String SORTS = "INT and LONG have 0, 1 and 2; SINGLE 0 to 4; DOUBLE all.";

    public static void main(String[] args) {
        sizes();
        notBelow();
        notAbove();
        show();
        like();
        down();
        up();
        even();
        wholeOnesStay();
        sortsOfKinds();
        Check.end();
    }

    private static void sizes() {
        Edges.edge("of an INT", SIZE, """
                fit 0 0 = false; step 0 0 = 1
                read 0 -2147483648 = -2147483648; read 0 -2147483647 = 2147483647
                read 0 2147483647 = 2147483647; read 0 -1 = 1; read 0 0 = 0; read 0 1 = 1
                step 0 0 = 2; read 0 -2147483648 = -2147483648; about 0 4 = 1
                """);
        Edges.edge("of a LONG", SIZE, """
                fit 0 1 = false; step 0 0 = 1
                read 0 -9223372036854775808 = -9223372036854775808; about 0 4 = 1
                read 0 -9223372036854775807 = 9223372036854775807
                read 0 9223372036854775807 = 9223372036854775807
                read 0 -2147483648 = 2147483648; read 0 -1 = 1; read 0 0 = 0
                """);
        Edges.edge("of a SINGLE", SIZE, """
                fit 0 2 = false; step 0 0 = 1
                read 0 -0.0f = 0.0f; read 0 0.0f = 0.0f; read 0 -0x1p-149f = 0x1p-149f; read 0 -inff = inff
                read 0 inff = inff; read 0 -0x1.fffffep127f = 0x1.fffffep127f; read 0 -1.5f = 1.5f
                """);
        Edges.edge("of a DOUBLE", SIZE, """
                fit 0 3 = false; step 0 0 = 1
                read 0 -0.0d = 0.0d; read 0 0.0d = 0.0d; read 0 -0x1p-1074d = 0x1p-1074d; read 0 -infd = infd
                read 0 infd = infd; read 0 -0x1.fffffffffffffp1023d = 0x1.fffffffffffffp1023d; read 0 -1.5d = 1.5d
                """);
    }

    private static void notBelow() {
        Edges.edge("of an INT and a LONG", NOT_BELOW, """
                fit 0 0 = false; stepBy 0 1 -2147483648 = 1; read 0 -2147483648 = -2147483648
                read 0 -2147483647 = -2147483647; stepBy 0 1 2147483647 = 2; read 0 2147483646 = 2147483647
                fit 1 1 = false; stepBy 1 1 -9223372036854775808 = 1; read 1 -9223372036854775808 = -9223372036854775808
                read 1 9223372036854775807 = 9223372036854775807; stepBy 1 1 4294967296 = 2; read 1 -1 = 4294967296
                read 1 4294967295 = 4294967296; read 1 4294967296 = 4294967296; read 1 4294967297 = 4294967297
                """);
        Edges.edge("of a SINGLE", NOT_BELOW, """
                fit 0 2 = false; stepBy 0 1 -inff = 1; read 0 -inff = -inff; read 0 -0x1.fffffep127f = -0x1.fffffep127f
                stepBy 0 1 -0.0f = 2; read 0 -0x1p-149f = -0.0f; read 0 -0.0f = -0.0f; read 0 0.0f = 0.0f
                stepBy 0 1 0.0f = 3; read 0 -0.0f = 0.0f; read 0 0x1p-149f = 0x1p-149f; read 0 inff = inff
                stepBy 0 1 inff = 4; read 0 0x1.fffffep127f = inff; read 0 -inff = inff
                """);
        Edges.edge("of a DOUBLE", NOT_BELOW, """
                fit 0 3 = false; stepBy 0 1 -infd = 1; read 0 -infd = -infd
                stepBy 0 1 -0.0d = 2; read 0 -0x1p-1074d = -0.0d; read 0 -0.0d = -0.0d; read 0 0.0d = 0.0d
                stepBy 0 1 0.0d = 3; read 0 -0.0d = 0.0d; read 0 0x1p-1074d = 0x1p-1074d; read 0 infd = infd
                stepBy 0 1 infd = 4; read 0 0x1.fffffffffffffp1023d = infd; read 0 -infd = infd
                """);
    }

    private static void notAbove() {
        Edges.edge("of an INT and a LONG", NOT_ABOVE, """
                fit 0 0 = false; stepBy 0 2 2147483647 = 1; read 0 2147483647 = 2147483647
                read 0 2147483646 = 2147483646; stepBy 0 2 -2147483648 = 2; read 0 -2147483647 = -2147483648
                fit 1 1 = false; stepBy 1 2 9223372036854775807 = 1; read 1 9223372036854775807 = 9223372036854775807
                read 1 -9223372036854775808 = -9223372036854775808; stepBy 1 2 4294967296 = 2
                read 1 4294967297 = 4294967296; read 1 4294967296 = 4294967296; read 1 4294967295 = 4294967295
                """);
        Edges.edge("of a SINGLE", NOT_ABOVE, """
                fit 0 2 = false; stepBy 0 2 inff = 1; read 0 inff = inff; read 0 0x1.fffffep127f = 0x1.fffffep127f
                stepBy 0 2 0.0f = 2; read 0 0x1p-149f = 0.0f; read 0 0.0f = 0.0f; read 0 -0.0f = -0.0f
                stepBy 0 2 -0.0f = 3; read 0 0.0f = -0.0f; read 0 -0x1p-149f = -0x1p-149f; read 0 -inff = -inff
                stepBy 0 2 -inff = 4; read 0 -0x1.fffffep127f = -inff; read 0 inff = -inff
                """);
        Edges.edge("of a DOUBLE", NOT_ABOVE, """
                fit 0 3 = false; stepBy 0 2 infd = 1; read 0 infd = infd
                stepBy 0 2 0.0d = 2; read 0 0x1p-1074d = 0.0d; read 0 0.0d = 0.0d; read 0 -0.0d = -0.0d
                stepBy 0 2 -0.0d = 3; read 0 0.0d = -0.0d; read 0 -0x1p-1074d = -0x1p-1074d; read 0 -infd = -infd
                stepBy 0 2 -infd = 4; read 0 -0x1.fffffffffffffp1023d = -infd; read 0 infd = -infd
                """);
    }

    private static void show() {
        Edges.edge("of a SINGLE", SHOW, """
                fit 0 2 = false; step 0 3 = 1
                read 0 0.0f = 0.0f; read 0 -0.0f = -0.0f; read 0 0x1p-149f = 1.0f; read 0 -0x1p-149f = -1.0f
                read 0 inff = 1.0f; read 0 -inff = -1.0f; read 0 0x1.fffffep127f = 1.0f; read 0 1.0f = 1.0f
                read 0 -1.0f = -1.0f; read 0 0.5f = 1.0f; read 0 -0x1p-126f = -1.0f
                """);
        Edges.edge("of a DOUBLE", SHOW, """
                fit 0 3 = false; step 0 3 = 1
                read 0 0.0d = 0.0d; read 0 -0.0d = -0.0d; read 0 0x1p-1074d = 1.0d; read 0 -0x1p-1074d = -1.0d
                read 0 infd = 1.0d; read 0 -infd = -1.0d; read 0 0x1.fffffffffffffp1023d = 1.0d; read 0 1.0d = 1.0d
                read 0 -1.0d = -1.0d; read 0 0.5d = 1.0d; read 0 -0x1p-1022d = -1.0d
                """);
    }

    private static void like() {
        String rows = """
                fit 0 K = false; stepBy 0 4 -0.0X = 1
                read 0 0.0X = -0.0X; read 0 -0.0X = -0.0X; read 0 LEASTX = -LEASTX; read 0 infX = -infX
                read 0 -infX = -infX; read 0 2.5X = -2.5X; read 0 -2.5X = -2.5X
                bare 0 = 1; stepBy 0 4 0.0X = 1
                read 0 0.0X = 0.0X; read 0 -0.0X = 0.0X; read 0 -LEASTX = LEASTX; read 0 -infX = infX
                read 0 infX = infX; read 0 2.5X = 2.5X; read 0 -2.5X = 2.5X
                stepBy 0 4 -infX = 2; read 0 7.0X = -7.0X; stepBy 0 4 LEASTX = 3; read 0 7.0X = 7.0X
                stepBy 0 4 -LEASTX = 4; read 0 7.0X = -7.0X; stepBy 0 4 infX = 5; read 0 -7.0X = 7.0X
                """;
        Edges.edge("of a SINGLE", LIKE, rows.replace("K", "2").replace("LEAST", "0x1p-149").replace("X", "f"));
        Edges.edge("of a DOUBLE", LIKE, rows.replace("K", "3").replace("LEAST", "0x1p-1074").replace("X", "d"));
    }

    private static void down() {
        Edges.edge("below one", DOWN, """
                fit 0 3 = false; step 0 5 = 1
                read 0 0x1p-1074d = 0.0d; read 0 -0x1p-1074d = -1.0d
                read 0 0x1p-1022d = 0.0d; read 0 -0x1p-1022d = -1.0d
                read 0 0.5d = 0.0d; read 0 -0.5d = -1.0d
                read 0 0x1.fffffffffffffp-1d = 0.0d; read 0 -0x1.fffffffffffffp-1d = -1.0d
                """);
        Edges.edge("from one on", DOWN, """
                fit 0 3 = false; step 0 5 = 1
                read 0 0x1.0000000000001p0d = 1.0d; read 0 -0x1.0000000000001p0d = -2.0d
                read 0 0x1.fffffffffffffp0d = 1.0d; read 0 -0x1.fffffffffffffp0d = -2.0d
                read 0 3.5d = 3.0d; read 0 -3.5d = -4.0d
                read 0 0x1.0000000000001p51d = 0x1p51d; read 0 -0x1.0000000000001p51d = -0x1.0000000000002p51d
                read 0 0x1.fffffffffffffp51d = 0x1.ffffffffffffep51d; read 0 -0x1.fffffffffffffp51d = -0x1p52d
                """);
    }

    private static void up() {
        Edges.edge("below one", UP, """
                fit 0 3 = false; step 0 6 = 1
                read 0 0x1p-1074d = 1.0d; read 0 -0x1p-1074d = -0.0d
                read 0 0x1p-1022d = 1.0d; read 0 -0x1p-1022d = -0.0d
                read 0 0.5d = 1.0d; read 0 -0.5d = -0.0d; about 0 4 = 1
                read 0 0x1.fffffffffffffp-1d = 1.0d; read 0 -0x1.fffffffffffffp-1d = -0.0d
                """);
        Edges.edge("from one on", UP, """
                fit 0 3 = false; step 0 6 = 1
                read 0 0x1.0000000000001p0d = 2.0d; read 0 -0x1.0000000000001p0d = -1.0d
                read 0 0x1.fffffffffffffp0d = 2.0d; read 0 -0x1.fffffffffffffp0d = -1.0d
                read 0 3.5d = 4.0d; read 0 -3.5d = -3.0d
                read 0 0x1.0000000000001p51d = 0x1.0000000000002p51d; read 0 -0x1.0000000000001p51d = -0x1p51d
                read 0 0x1.fffffffffffffp51d = 0x1p52d; read 0 -0x1.fffffffffffffp51d = -0x1.ffffffffffffep51d
                """);
    }

    private static void even() {
        Edges.edge("about a half", EVEN, """
                fit 0 3 = false; step 0 7 = 1
                read 0 0x1p-1074d = 0.0d; read 0 -0x1p-1074d = -0.0d
                read 0 0x1.fffffffffffffp-2d = 0.0d; read 0 -0x1.fffffffffffffp-2d = -0.0d
                read 0 0.5d = 0.0d; read 0 -0.5d = -0.0d; about 0 4 = 1
                read 0 0x1.0000000000001p-1d = 1.0d; read 0 -0x1.0000000000001p-1d = -1.0d
                read 0 0x1.fffffffffffffp-1d = 1.0d; read 0 -0x1.fffffffffffffp-1d = -1.0d
                """);
        Edges.edge("of two the even one", EVEN, """
                fit 0 3 = false; step 0 7 = 1
                read 0 1.5d = 2.0d; read 0 -1.5d = -2.0d; read 0 2.5d = 2.0d; read 0 -2.5d = -2.0d
                read 0 3.5d = 4.0d; read 0 4.5d = 4.0d; read 0 7.5d = 8.0d; read 0 -7.5d = -8.0d
                read 0 0x1.7ffffffffffffp0d = 1.0d; read 0 0x1.8000000000001p0d = 2.0d
                read 0 0x1.3ffffffffffffp1d = 2.0d; read 0 0x1.4000000000001p1d = 3.0d
                read 0 -0x1.3ffffffffffffp1d = -2.0d; read 0 -0x1.4000000000001p1d = -3.0d
                """);
        Edges.edge("the highest that are not whole", EVEN, """
                fit 0 3 = false; step 0 7 = 1
                read 0 0x1.0000000000001p51d = 0x1p51d; read 0 0x1.0000000000003p51d = 0x1.0000000000004p51d
                read 0 0x1.ffffffffffffdp51d = 0x1.ffffffffffffcp51d; read 0 0x1.fffffffffffffp51d = 0x1p52d
                read 0 -0x1.fffffffffffffp51d = -0x1p52d; read 0 0x1.0000000000001p50d = 0x1p50d
                read 0 0x1.0000000000003p50d = 0x1.0000000000004p50d; read 0 0x1.fffffffffffffp50d = 0x1p51d
                """);
    }

    private static void wholeOnesStay() {
        for (int sort = 5; sort <= 7; sort++) {
            Edges.edge("sort " + sort, STAY, """
                    fit 0 3 = false; step 0 S = 1
                    read 0 0.0d = 0.0d; read 0 -0.0d = -0.0d; read 0 infd = infd; read 0 -infd = -infd
                    read 0 1.0d = 1.0d; read 0 -1.0d = -1.0d; read 0 2.0d = 2.0d; read 0 -3.0d = -3.0d
                    read 0 0x1.ffffffffffffep51d = 0x1.ffffffffffffep51d; read 0 0x1p52d = 0x1p52d
                    read 0 0x1.0000000000001p52d = 0x1.0000000000001p52d; read 0 -0x1p53d = -0x1p53d
                    read 0 0x1.fffffffffffffp52d = 0x1.fffffffffffffp52d
                    read 0 0x1.0000000000001p53d = 0x1.0000000000001p53d
                    read 0 0x1.fffffffffffffp1023d = 0x1.fffffffffffffp1023d
                    read 0 -0x1.fffffffffffffp1023d = -0x1.fffffffffffffp1023d
                    """.replace("S", String.valueOf(sort)));
        }
    }

    private static void sortsOfKinds() {
        for (int kind = 0; kind <= 1; kind++) {
            Edges.edge("kind " + kind, SORTS, """
                    fit 0 K = false; step 0 0 = 1; stepBy 0 1 0 = 2; stepBy 0 2 0 = 3; stepOf 0 1 0 = 4
                    stepOf 0 2 0 = 5
                    step 0 3 = argument; stepBy 0 4 0 = argument; stepOf 0 4 0 = argument; step 0 5 = argument
                    step 0 6 = argument; step 0 7 = argument; step 0 -1 = argument; step 0 8 = argument
                    """.replace("K", String.valueOf(kind)));
        }
        Edges.edge("of a SINGLE", SORTS, """
                fit 0 2 = false; step 0 0 = 1; stepBy 0 1 0 = 2; stepBy 0 2 0 = 3; step 0 3 = 4; stepBy 0 4 0 = 5
                stepOf 0 4 0 = 6; step 0 5 = argument; step 0 6 = argument; step 0 7 = argument; step 0 8 = argument
                step 0 -1 = argument; stepBy 0 5 0 = argument; stepBy 0 -1 0 = argument; about 0 1 = 6
                """);
        Edges.edge("of a DOUBLE", SORTS, """
                fit 0 3 = false; step 0 0 = 1; stepBy 0 1 0 = 2; stepBy 0 2 0 = 3; step 0 3 = 4; stepBy 0 4 0 = 5
                step 0 5 = 6; step 0 6 = 7; step 0 7 = 8; bare 0 = 8
                step 0 8 = argument; stepBy 0 8 0 = argument; stepOf 0 8 0 = argument
                step 0 -1 = argument; stepBy 0 -1 0 = argument; stepOf 0 -1 0 = argument; about 0 1 = 0
                """);
    }
}
