import java.lang.reflect.InvocationTargetException;
import java.lang.reflect.Method;
import java.util.Map;

/**
 * Runs of calls, each on a new board, for one sentence of the document that names a boundary case.
 *
 * A run has a row for each call: its name and arguments, " = " and the answer that is due. Numbers are whole ones
 * (10, 0x7f800000), or real ones that stand for their bits: 0.5d and infd for DOUBLES, 0.5f and inff for SINGLES.
 */
final class Edges {
    private static final int MOST_CALLS = 512;
    private static final String[] NOWHERE = {"-1", "1", "12", "-2147483648", "2147483647"};
    private static final Map<String, String> EXCEPTIONS =
            Map.of("none", Check.NONE, "argument", Check.ARGUMENT, "state", Check.STATE);

    private Edges() {
    }

    /** Rows are parted by line ends or semicolons. */
    static void edge(String section, String sentence, String rows) {
        GaugeBoard board = new GaugeBoard();
        int number = 0;
        for (String row : rows.split("[\n;]")) {
            if (!row.isBlank()) {
                number++;
                String told = section + ": \"" + sentence + "\"\n  call " + number + ", " + row.strip();
                String[] sides = row.strip().split(" = ");
                Check.same(told, answer(board, sides[0].split(" ")), dueText(sides[1]));
            }
        }
        Check.same(section + ": a run has from 1 to 512 calls", number >= 1 && number <= MOST_CALLS, true);
    }

    /** On a board with one gauge, at place 0: the call must find none at the numbers G where nothing is. */
    static void nowhere(String section, String sentence, int kind, String call) {
        StringBuilder rows = new StringBuilder("fit 0 " + kind + " = false;");
        for (String number : NOWHERE) {
            rows.append(call.replace("G", number)).append(" = none;");
        }
        edge(section, sentence, rows + "gauges = 1; about 0 1 = 0; about 0 2 = 0");
    }

    private static String dueText(String due) {
        if (EXCEPTIONS.containsKey(due)) {
            return EXCEPTIONS.get(due);
        }
        return due.equals("true") || due.equals("false") ? due : String.valueOf(bits(due));
    }

    private static String answer(GaugeBoard board, String[] words) {
        Method method = methodOf(words[0]);
        Class<?>[] types = method.getParameterTypes();
        Check.same(words[0] + " has as many arguments as it takes", words.length - 1, types.length);
        Object[] arguments = new Object[types.length];
        for (int i = 0; i < types.length; i++) {
            arguments[i] = argument(words[i + 1], types[i]);
        }
        return Check.answer(() -> invoke(method, board, arguments));
    }

    private static Method methodOf(String name) {
        for (Method method : GaugeBoard.class.getMethods()) {
            if (method.getName().equals(name)) {
                return method;
            }
        }
        throw new AssertionError("the face has no " + name);
    }

    private static Object argument(String word, Class<?> type) {
        if (type == boolean.class) {
            return word.equals("true");
        }
        if (type == int.class) {
            return Integer.parseInt(word);
        }
        return bits(word);
    }

    private static Object invoke(Method method, GaugeBoard board, Object[] arguments) throws Exception {
        try {
            return method.invoke(board, arguments);
        } catch (InvocationTargetException e) {
            throw (Exception) e.getCause();
        }
    }

    private static long bits(String word) {
        if (word.startsWith("0x") && word.indexOf('p') < 0) {
            return Long.parseUnsignedLong(word.substring(2), 16);
        }
        String real = word.substring(0, word.length() - 1).replace("inf", "Infinity");
        if (word.endsWith("d")) {
            return Double.doubleToRawLongBits(Double.parseDouble(real));
        }
        return word.endsWith("f") ? Float.floatToRawIntBits(Float.parseFloat(real)) : Long.parseLong(word);
    }
}
