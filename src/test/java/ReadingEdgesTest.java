/** The boundary cases of READINGS and of what is HANDED ON. */
public final class ReadingEdgesTest {
    private static final String ROW = "it goes through the STEPS, the first one first; what comes of it is the VALUE.";
    private static final String SWINGS = "READINGS are one more; SWINGS one more, if its SIGN is another one than that"
            + " of the VALUE before.";
    private static final String MARKS =
            "HIGH is the higher one of HIGH and it (it, if HIGH is not set), LOW the lower one likewise.";
    private static final String NEAREST = "a VALUE comes as a READING to a gauge of another kind as the nearest one"
            + " there is, of two the one whose last bit is 0: INT to LONG, SINGLE, DOUBLE; LONG to SINGLE, DOUBLE;"
            + " SINGLE to DOUBLE (that one exactly).";
    private static final String SAME_KIND = "To the same kind as it is.";

    public static void main(String[] args) {
        stepsInTheirRow();
        readingsAndSwings();
        marks();
        intsToLongs();
        intsToSingles();
        intsToDoubles();
        longsToSingles();
        longsToDoubles();
        singlesToDoubles();
        handedOnIsAReading();
        sameKind();
        Check.end();
    }

    private static void stepsInTheirRow() {
        Edges.edge("no STEPS", ROW, """
                fit 0 0 = false; read 0 -7 = -7; value 0 = -7; fit 1 3 = false; read 1 -0.0d = -0.0d; value 1 = -0.0d
                """);
        Edges.edge("two STEPS, both ways", ROW, """
                fit 0 0 = false; stepBy 0 1 5 = 1; stepBy 0 2 2 = 2; read 0 4 = 2; read 0 9 = 2; read 0 -9 = 2
                bare 0 = 2; stepBy 0 2 2 = 1; stepBy 0 1 5 = 2; read 0 4 = 5; read 0 9 = 5; read 0 -9 = 5
                """);
        Edges.edge("eight STEPS", ROW, """
                fit 0 3 = false; step 0 6 = 1; stepBy 0 4 1.0d = 2; stepBy 0 1 0.25d = 3; stepBy 0 4 -1.0d = 4
                step 0 5 = 5; step 0 0 = 6; stepBy 0 2 2.5d = 7; step 0 7 = 8
                read 0 -0.5d = 1.0d; read 0 1.5d = 2.0d; read 0 9.0d = 2.0d; read 0 -infd = 2.0d; value 0 = 2.0d
                """);
    }

    private static void readingsAndSwings() {
        Edges.edge("of whole numbers", SWINGS, """
                fit 0 0 = false; read 0 0 = 0; about 0 2 = 1; about 0 3 = 0; read 0 -1 = -1; about 0 2 = 2
                about 0 3 = 1
                read 0 -2147483648 = -2147483648; about 0 2 = 3; about 0 3 = 1; read 0 0 = 0; about 0 3 = 2
                read 0 2147483647 = 2147483647; about 0 2 = 5; about 0 3 = 2
                fit 1 1 = false; read 1 -9223372036854775808 = -9223372036854775808; about 1 2 = 1; about 1 3 = 1
                read 1 9223372036854775807 = 9223372036854775807; about 1 3 = 2; read 1 0 = 0; about 1 3 = 2
                """);
        String reals = """
                fit 0 K = false; read 0 -0.0X = -0.0X; about 0 2 = 1; about 0 3 = 1; read 0 -0.0X = -0.0X; about 0 3 = 1
                read 0 0.0X = 0.0X; about 0 3 = 2; read 0 infX = infX; about 0 3 = 2; read 0 -infX = -infX
                about 0 3 = 3
                read 0 -0.0X = -0.0X; about 0 3 = 3; read 0 -1.0X = -1.0X; about 0 3 = 3; read 0 0.0X = 0.0X
                about 0 3 = 4; about 0 2 = 8
                """;
        Edges.edge("of SINGLES", SWINGS, reals.replace("K", "2").replace("X", "f"));
        Edges.edge("of DOUBLES", SWINGS, reals.replace("K", "3").replace("X", "d"));
        Edges.edge("of what comes of the STEPS", SWINGS, """
                fit 0 3 = false; step 0 6 = 1; read 0 -0.5d = -0.0d; about 0 3 = 1; read 0 0.5d = 1.0d; about 0 3 = 2
                step 0 0 = 2; read 0 -8.0d = 8.0d; about 0 3 = 2; about 0 2 = 3
                bare 0 = 2; clear 0 = true; read 0 -8.0d = -8.0d; about 0 3 = 3; about 0 2 = 4
                """);
        Edges.edge("a READING that is refused does not count", SWINGS, """
                fit 0 0 = false; read 0 -2147483649 = argument; about 0 2 = 0; about 0 3 = 0
                """);
    }

    private static void marks() {
        Edges.edge("not set: the first one is both, on either side of 0", MARKS, """
                fit 0 0 = false; read 0 -5 = -5; mark 0 true = -5; mark 0 false = -5
                fit 1 1 = false; read 1 5 = 5; mark 1 true = 5; mark 1 false = 5
                fit 2 2 = false; read 2 -inff = -inff; mark 2 true = -inff; mark 2 false = -inff
                fit 3 3 = false; read 3 infd = infd; mark 3 true = infd; mark 3 false = infd
                """);
        Edges.edge("not set any more", MARKS, """
                fit 0 0 = false; read 0 100 = 100; read 0 -100 = -100; clear 0 = true
                read 0 7 = 7; mark 0 true = 7; mark 0 false = 7; read 0 8 = 8; mark 0 true = 8; mark 0 false = 7
                read 0 6 = 6; mark 0 true = 8; mark 0 false = 6
                """);
        String zeros = """
                fit 0 K = false; read 0 -0.0X = -0.0X; mark 0 true = -0.0X; mark 0 false = -0.0X
                read 0 0.0X = 0.0X; mark 0 true = 0.0X; mark 0 false = -0.0X
                read 0 -0.0X = -0.0X; mark 0 true = 0.0X; mark 0 false = -0.0X
                clear 0 = true; read 0 0.0X = 0.0X; mark 0 false = 0.0X; read 0 -0.0X = -0.0X; mark 0 true = 0.0X
                mark 0 false = -0.0X; read 0 infX = infX; read 0 -infX = -infX; mark 0 true = infX; mark 0 false = -infX
                """;
        Edges.edge("zeros of SINGLES", MARKS, zeros.replace("K", "2").replace("X", "f"));
        Edges.edge("zeros of DOUBLES", MARKS, zeros.replace("K", "3").replace("X", "d"));
        Edges.edge("of what comes of the STEPS", MARKS, """
                fit 0 1 = false; stepBy 0 1 -3 = 1; stepBy 0 2 3 = 2; read 0 -9 = -3; read 0 9 = 3
                mark 0 true = 3; mark 0 false = -3; read 0 1 = 1; mark 0 true = 3; mark 0 false = -3
                """);
    }

    /** Rows of what is read and what it is when handed on, in pairs. */
    private static void handedOn(int from, int to, String... pairs) {
        StringBuilder rows = new StringBuilder("fit 4 " + from + " = false; fit 9 " + to + " = false;");
        for (int i = 0; i < pairs.length; i += 2) {
            rows.append("read 4 ").append(pairs[i]).append(" = ").append(pairs[i]);
            rows.append("; hand 4 9 = ").append(pairs[i + 1]).append("; value 9 = ").append(pairs[i + 1]);
            rows.append("; value 4 = ").append(pairs[i]).append(";");
        }
        Edges.edge("kind " + from + " to kind " + to, from == to ? SAME_KIND : NEAREST, rows.toString());
    }

    private static void intsToLongs() {
        handedOn(Boards.INT, Boards.LONG, "0", "0", "-1", "-1", "2147483647", "2147483647",
                "-2147483648", "-2147483648");
    }

    private static void intsToSingles() {
        handedOn(Boards.INT, Boards.SINGLE, "0", "0.0f", "1", "1.0f", "-1", "-1.0f",
                "16777215", "0x1.fffffep23f", "16777216", "0x1p24f", "16777217", "0x1p24f",
                "16777218", "0x1.000002p24f", "16777219", "0x1.000004p24f", "-16777217", "-0x1p24f",
                "-16777219", "-0x1.000004p24f", "33554430", "0x1.fffffep24f", "33554431", "0x1p25f",
                "33554433", "0x1p25f", "33554434", "0x1p25f", "33554435", "0x1.000002p25f",
                "33554437", "0x1.000002p25f", "33554438", "0x1.000004p25f",
                "2147483583", "0x1.fffffep30f", "2147483584", "0x1p31f", "2147483647", "0x1p31f",
                "-2147483583", "-0x1.fffffep30f", "-2147483584", "-0x1p31f", "-2147483647", "-0x1p31f",
                "-2147483648", "-0x1p31f");
    }

    private static void intsToDoubles() {
        handedOn(Boards.INT, Boards.DOUBLE, "0", "0.0d", "1", "1.0d", "-1", "-1.0d", "16777217", "0x1.000001p24d",
                "2147483647", "0x1.fffffffcp30d", "-2147483647", "-0x1.fffffffcp30d", "-2147483648", "-0x1p31d");
    }

    private static void longsToSingles() {
        handedOn(Boards.LONG, Boards.SINGLE, "0", "0.0f", "-1", "-1.0f", "16777217", "0x1p24f",
                "16777219", "0x1.000004p24f", "9223372036854775807", "0x1p63f", "-9223372036854775808", "-0x1p63f",
                "-9223372036854775807", "-0x1p63f", "9223371761976868863", "0x1.fffffep62f",
                "9223371761976868864", "0x1p63f", "-9223371761976868863", "-0x1.fffffep62f");
        // Rounded once: by way of a DOUBLE those next to a tie would come to it, and some from there to another end.
        handedOn(Boards.LONG, Boards.SINGLE, "4611686293305294849", "0x1.000002p62f",
                "4611686293305294848", "0x1p62f", "4611686293305294847", "0x1p62f",
                "4611686843061108736", "0x1.000004p62f", "4611686843061108735", "0x1.000002p62f",
                "-4611686293305294849", "-0x1.000002p62f", "-4611686843061108735", "-0x1.000002p62f");
    }

    private static void longsToDoubles() {
        handedOn(Boards.LONG, Boards.DOUBLE, "0", "0.0d", "-1", "-1.0d",
                "9007199254740991", "0x1.fffffffffffffp52d", "9007199254740992", "0x1p53d",
                "9007199254740993", "0x1p53d", "9007199254740994", "0x1.0000000000001p53d",
                "9007199254740995", "0x1.0000000000002p53d", "-9007199254740993", "-0x1p53d",
                "-9007199254740995", "-0x1.0000000000002p53d", "18014398509481982", "0x1.fffffffffffffp53d",
                "18014398509481983", "0x1p54d", "9223372036854775295", "0x1.fffffffffffffp62d",
                "9223372036854775296", "0x1p63d", "9223372036854775807", "0x1p63d",
                "-9223372036854775295", "-0x1.fffffffffffffp62d", "-9223372036854775807", "-0x1p63d",
                "-9223372036854775808", "-0x1p63d");
    }

    private static void singlesToDoubles() {
        handedOn(Boards.SINGLE, Boards.DOUBLE, "0.0f", "0.0d", "-0.0f", "-0.0d", "inff", "infd", "-inff", "-infd",
                "0x1p-149f", "0x1p-149d", "-0x1p-149f", "-0x1p-149d", "0x1.8p-148f", "0x1.8p-148d",
                "0x1p-127f", "0x1p-127d", "0x0.fffffep-126f", "0x0.fffffep-126d", "0x1p-126f", "0x1p-126d",
                "-0x1.000002p-126f", "-0x1.000002p-126d", "0.1f", "0x1.99999ap-4d", "1.0f", "1.0d",
                "0x1.fffffep127f", "0x1.fffffep127d", "-0x1.fffffep127f", "-0x1.fffffep127d", "0x1p127f", "0x1p127d");
    }

    private static void handedOnIsAReading() {
        Edges.edge("through the STEPS, counted and marked", NEAREST, """
                fit 0 0 = false; fit 1 3 = false; read 0 -7 = -7; stepBy 1 2 -0.5d = 1; step 1 6 = 2
                hand 0 1 = -7.0d; about 1 2 = 1; about 1 3 = 1; mark 1 true = -7.0d; mark 1 false = -7.0d
                read 0 7 = 7; hand 0 1 = -0.0d; about 1 2 = 2; about 1 3 = 1; mark 1 true = -0.0d
                about 0 2 = 2; about 0 3 = 2; mark 0 true = 7; mark 0 false = -7
                """);
        Edges.edge("made the nearest one ahead of the STEPS", NEAREST, """
                fit 0 0 = false; fit 1 2 = false; read 0 16777219 = 16777219; stepBy 1 1 0x1.000002p24f = 1
                hand 0 1 = 0x1.000004p24f; stepBy 1 2 0x1.000002p24f = 2; hand 0 1 = 0x1.000002p24f
                """);
        Edges.edge("the VALUE at first, ahead of any READING", NEAREST, """
                fit 0 0 = false; fit 1 2 = false; fit 2 3 = false; hand 0 1 = 0.0f; hand 1 2 = 0.0d; about 0 2 = 0
                about 1 2 = 1; about 2 2 = 1; mark 0 true = state; mark 2 true = 0.0d
                """);
        Edges.edge("to a gauge whose STEP takes the one that hands on", NEAREST, """
                fit 0 1 = false; fit 1 1 = false; read 0 -6 = -6; step 1 0 = 1; stepOf 1 2 0 = 2; hand 0 1 = -6
                """);
    }

    private static void sameKind() {
        handedOn(Boards.INT, Boards.INT, "0", "0", "-2147483648", "-2147483648", "2147483647", "2147483647");
        handedOn(Boards.LONG, Boards.LONG, "-9223372036854775808", "-9223372036854775808",
                "9223372036854775807", "9223372036854775807", "9007199254740993", "9007199254740993");
        handedOn(Boards.SINGLE, Boards.SINGLE, "-0.0f", "-0.0f", "0x1p-149f", "0x1p-149f", "-inff", "-inff",
                "0x1.fffffep127f", "0x1.fffffep127f");
        handedOn(Boards.DOUBLE, Boards.DOUBLE, "-0.0d", "-0.0d", "0x1p-1074d", "0x1p-1074d", "infd", "infd",
                "0x1.fffffffffffffp1023d", "0x1.fffffffffffffp1023d", "-0x1.0000000000001p0d", "-0x1.0000000000001p0d");
    }
}
