import java.io.IOException;
import java.lang.reflect.Method;
import java.lang.reflect.Modifier;
import java.nio.file.Files;
import java.nio.file.Path;
import java.util.ArrayList;
import java.util.List;

/** README.md says how to use the class: its example answers as it says there, and its table has every call. */
public final class ReadmeTest {
    private static final String CALL = "board.";

    public static void main(String[] args) throws IOException {
        List<String> lines = Files.readAllLines(Path.of("README.md"));
        checkExample(lines);
        checkTable(lines);
        Check.end();
    }

    private static void checkExample(List<String> lines) {
        GaugeBoard board = new GaugeBoard();
        long lowWater = Double.doubleToRawLongBits(-2.5);
        List<String> due = new ArrayList<>();
        due.add(row("fit(0, 1)", board.fit(0, 1)));
        due.add(row("fit(1, 3)", board.fit(1, 3)));
        due.add(row("stepBy(0, 2, 100L)", board.stepBy(0, 2, 100L)));
        due.add(row("step(1, 5)", board.step(1, 5)));
        due.add(row("read(0, 250L)", board.read(0, 250L)));
        due.add(row("read(1, lowWater)", board.read(1, lowWater)));
        due.add(row("hand(0, 1)", board.hand(0, 1)));
        due.add(row("mark(1, false)", board.mark(1, false)));
        due.add(row("about(1, 3)", board.about(1, 3)));
        Check.same("the value of -3.0", board.mark(1, false), Double.doubleToRawLongBits(-3.0));
        Check.same("the value of 100.0", board.value(1), Double.doubleToRawLongBits(100.0));
        Check.same("README's example", exampleRows(lines), due);
    }

    private static String row(String call, Object answer) {
        return CALL + call + "; // " + answer;
    }

    /** The example's calls with their answers, without what is told behind an answer. */
    private static List<String> exampleRows(List<String> lines) {
        List<String> rows = new ArrayList<>();
        for (String line : lines) {
            if (line.startsWith(CALL)) {
                rows.add(line.replaceAll(": .*", "").replaceAll("; +//", "; //"));
            }
        }
        return rows;
    }

    private static void checkTable(List<String> lines) {
        for (Method method : GaugeBoard.class.getDeclaredMethods()) {
            String start = "| `" + method.getName() + "(";
            if (Modifier.isPublic(method.getModifiers())) {
                long rows = lines.stream().filter(line -> line.startsWith(start)).count();
                Check.same("README's rows for " + method.getName(), rows, 1L);
            }
        }
    }
}
