import java.lang.reflect.InvocationTargetException;
import java.lang.reflect.Method;
import java.util.Arrays;

/** Long mixed runs of all calls: each answer, or exception, must be that of BoardModel. */
public final class ModelTest {
    private static final int BOARDS = 3000;
    private static final int CALLS = 512;

    // A call's name, how often it comes, and its arguments: g a gauge, k a kind, s a sort, b bits, h a boolean,
    // w a what, n a step's number.
    private static final String[] CALL_FORMS = {
        "fit 2 gk", "step 4 gs", "stepBy 5 gsb", "stepOf 5 gsg", "bare 2 g", "read 30 gb", "hand 16 gg", "clear 3 g",
        "value 4 g", "mark 8 gh", "about 10 gw", "stepAt 6 gnw", "rank 5 g", "most 4 kh", "gauges 1 ",
    };

    private static final long[] EDGES = {
        0, 1, -1, 2, -2, 16777217, 16777219, -16777217, 33554434, 2147483647L, -2147483648L, 2147483648L, -2147483649L,
        Long.MAX_VALUE, Long.MIN_VALUE, Long.MIN_VALUE + 1, 0x7f800000L, 0x7f800001L, 0x7f7fffffL, -8388608L, -8388607L,
        -8388609L, 0x3f800000L, 0x007fffffL, 0x00800000L, 0x7ff0000000000000L, 0x7ff0000000000001L,
        0x7fefffffffffffffL, 0xfff0000000000000L, 0xfff0000000000001L, 0x3fe0000000000000L, 0xbfe0000000000000L,
        0x3ff8000000000000L, 0x4004000000000000L, 0x3fdfffffffffffffL, 0x432fffffffffffffL, 0x4330000000000000L,
        0x000fffffffffffffL, 0x0010000000000000L, 9007199254740993L, 9007199254740995L, -9007199254740993L,
    };

    private static long state = 20240229L;

    public static void main(String[] args) {
        for (int board = 0; board < BOARDS; board++) {
            runBoard(board);
        }
        Check.end();
    }

    private static int below(int bound) {
        return (int) ((next() >>> 33) % bound);
    }

    // A fixed walk through all longs, so that every run of this test makes the same calls.
    private static long next() {
        state = state * 6364136223846793005L + 1442695040888963407L;
        long mixed = (state ^ state >>> 32) * 0x9e3779b97f4a7c15L;
        return mixed ^ mixed >>> 29;
    }

    private static void runBoard(int number) {
        GaugeBoard board = new GaugeBoard();
        BoardModel model = new BoardModel();
        int places = 2 + below(11);
        int kinds = below(3) == 0 ? 1 + below(4) : 4;
        int firstKind = below(4);
        for (int call = 0; call < CALLS; call++) {
            String[] form = call < places ? new String[] {"fit", "", "gk"} : anyForm();
            Object[] arguments = argumentsOf(form.length < 3 ? "" : form[2], places, kinds, firstKind);
            if (call < places) {
                arguments[0] = call % 12;
            }
            String want = answer(model, form[0], arguments);
            String got = answer(board, form[0], arguments);
            Check.same("board " + number + ", call " + call + ": " + form[0] + Arrays.toString(arguments), got, want);
        }
    }

    private static String[] anyForm() {
        int at = below(105);
        for (String form : CALL_FORMS) {
            String[] parts = form.split(" ");
            at -= Integer.parseInt(parts[1]);
            if (at < 0) {
                return parts;
            }
        }
        throw new AssertionError("the forms are not 105 in all");
    }

    private static Object[] argumentsOf(String letters, int places, int kinds, int firstKind) {
        Object[] arguments = new Object[letters.length()];
        for (int i = 0; i < arguments.length; i++) {
            switch (letters.charAt(i)) {
                case 'g': arguments[i] = mostly(0, places); break;
                case 'k': arguments[i] = below(40) == 0 ? mostly(0, 4) : (firstKind + below(kinds)) % 4; break;
                case 's': arguments[i] = mostly(0, 8); break;
                case 'n': arguments[i] = mostly(0, 4); break;
                case 'w': arguments[i] = mostly(0, 6); break;
                case 'h': arguments[i] = below(2) == 0; break;
                default: arguments[i] = anyBits(); break;
            }
        }
        return arguments;
    }

    private static int mostly(int from, int bound) {
        int[] wrong = {from - 1, bound, 12, 11, Integer.MIN_VALUE, Integer.MAX_VALUE};
        return below(40) == 0 ? wrong[below(wrong.length)] : from + below(bound - from);
    }

    private static long anyBits() {
        switch (below(7)) {
            case 0: return EDGES[below(EDGES.length)];
            case 1: return next();
            case 2: return (int) next();
            case 3: return below(41) - 20;
            case 4: return next() >> below(64);
            case 5: return Float.floatToRawIntBits((below(81) - 40) / 4f);
            default: return Double.doubleToRawLongBits((below(81) - 40) / 4.0 * Math.scalb(1.0, below(54)));
        }
    }

    private static String answer(Object board, String name, Object[] arguments) {
        Class<?>[] types = new Class<?>[arguments.length];
        for (int i = 0; i < types.length; i++) {
            types[i] = arguments[i] instanceof Integer ? int.class
                    : arguments[i] instanceof Long ? long.class : boolean.class;
        }
        try {
            Method method = board.getClass().getMethod(name, types);
            return String.valueOf(method.invoke(board, arguments));
        } catch (InvocationTargetException e) {
            return "throws." + e.getCause().getClass().getSimpleName();
        } catch (ReflectiveOperationException e) {
            throw new AssertionError(e);
        }
    }
}
