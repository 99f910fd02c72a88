import java.lang.reflect.Constructor;
import java.lang.reflect.Field;
import java.lang.reflect.Method;
import java.lang.reflect.Modifier;
import java.util.Arrays;
import java.util.Set;
import java.util.TreeSet;

/** The public face: the class with just the document's members. */
public final class FaceTest {
    private static final String NONE = "java.util.NoSuchElementException";
    private static final String ARGUMENT = "java.lang.IllegalArgumentException";
    private static final String STATE = "java.lang.IllegalStateException";
    private static final String[] FACE = {
        "public boolean GaugeBoard.fit(int,int) throws " + NONE + "," + ARGUMENT + "," + STATE,
        "public int GaugeBoard.step(int,int) throws " + NONE + "," + ARGUMENT + "," + STATE,
        "public int GaugeBoard.stepBy(int,int,long) throws " + NONE + "," + ARGUMENT + "," + STATE,
        "public int GaugeBoard.stepOf(int,int,int) throws " + NONE + "," + ARGUMENT + "," + STATE,
        "public int GaugeBoard.bare(int) throws " + NONE,
        "public long GaugeBoard.read(int,long) throws " + NONE + "," + ARGUMENT,
        "public long GaugeBoard.hand(int,int) throws " + NONE + "," + ARGUMENT,
        "public boolean GaugeBoard.clear(int) throws " + NONE,
        "public long GaugeBoard.value(int) throws " + NONE,
        "public long GaugeBoard.mark(int,boolean) throws " + NONE + "," + STATE,
        "public int GaugeBoard.about(int,int) throws " + NONE + "," + ARGUMENT,
        "public int GaugeBoard.stepAt(int,int,int) throws " + NONE + "," + ARGUMENT,
        "public int GaugeBoard.rank(int) throws " + NONE,
        "public long GaugeBoard.most(int,boolean) throws " + ARGUMENT + "," + STATE,
        "public int GaugeBoard.gauges()",
    };

    public static void main(String[] args) {
        Class<?> board = GaugeBoard.class;
        Check.same("the class's modifiers", Modifier.toString(board.getModifiers()), "public final");
        Check.same("its upper class", board.getSuperclass().getName(), "java.lang.Object");
        checkMethods(board);
        checkConstructors(board);
        checkFields(board);
        for (Class<?> inside : board.getDeclaredClasses()) {
            Check.same(inside.getName() + " is static", Modifier.isStatic(inside.getModifiers()), true);
            Check.same(inside.getName() + " is public", Modifier.isPublic(inside.getModifiers()), false);
        }
        Check.end();
    }

    private static void checkMethods(Class<?> board) {
        Set<String> seen = new TreeSet<>();
        Set<String> publicNames = new TreeSet<>();
        Set<String> privateNames = new TreeSet<>();
        for (Method method : board.getDeclaredMethods()) {
            if (Modifier.isPrivate(method.getModifiers())) {
                privateNames.add(method.getName());
            } else {
                seen.add(method.toString());
                publicNames.add(method.getName());
            }
        }
        Check.same("the methods that are not private", seen, new TreeSet<>(Arrays.asList(FACE)));
        privateNames.retainAll(publicNames);
        Check.same("private methods with a public one's name", privateNames, new TreeSet<String>());
    }

    private static void checkConstructors(Class<?> board) {
        Set<String> seen = new TreeSet<>();
        for (Constructor<?> constructor : board.getDeclaredConstructors()) {
            seen.add(constructor.toString());
        }
        Check.same("the constructors", seen, Set.of("public GaugeBoard()"));
    }

    private static void checkFields(Class<?> board) {
        for (Field field : board.getDeclaredFields()) {
            int modifiers = field.getModifiers();
            Check.same(field + " is private", Modifier.isPrivate(modifiers), true);
            if (Modifier.isStatic(modifiers)) {
                Check.same(field + " is final", Modifier.isFinal(modifiers), true);
            }
        }
    }
}
