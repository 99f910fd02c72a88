import java.util.concurrent.Callable;

/** What the tests share: counts the answers that are not as due, prints them, and ends with exit code 1 then. */
final class Check {
    static final String NONE = "throws.NoSuchElementException";
    static final String ARGUMENT = "throws.IllegalArgumentException";
    static final String STATE = "throws.IllegalStateException";

    private static int wrong = 0;

    private Check() {
    }

    /** The answer of a call as text, or the name of what it throws behind "throws.". */
    static String answer(Callable<?> call) {
        try {
            return String.valueOf(call.call());
        } catch (Exception e) {
            return "throws." + e.getClass().getSimpleName();
        }
    }

    static void due(String told, Callable<?> call, Object want) {
        same(told, answer(call), String.valueOf(want));
    }

    static void same(String told, Object got, Object want) {
        if (!want.equals(got)) {
            wrong++;
            System.out.println(told + " answered " + got + ", due is " + want);
        }
    }

    static void end() {
        System.out.println(wrong == 0 ? "all answers are as due" : wrong + " answers are not as due");
        if (wrong != 0) {
            System.exit(1);
        }
    }
}
