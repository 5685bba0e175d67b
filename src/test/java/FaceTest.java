import java.lang.reflect.Constructor;
import java.lang.reflect.Field;
import java.lang.reflect.Method;
import java.lang.reflect.Modifier;
import java.util.List;
import java.util.Set;
import java.util.TreeSet;

/** The public face, the constants, and the rules of LANGUAGE.md that the compiled class shows. */
public final class FaceTest {
    private static final Set<String> CONSTANTS = Set.of(
            "OK=0", "STATE=-1", "BAD_CHAR=-2", "FULL=-3", "SYNTAX=-4", "EMPTY=-5", "RANGE=-6", "NONE=-7",
            "ABSENT=0", "UNTOUCHED=1", "TYPED=2", "DEAD=3", "FINAL=4",
            "INFO_LENGTH=0", "INFO_CARET=1", "INFO_SEL_START=2", "INFO_ACTIVE=3", "INFO_SELECTED=4",
            "INFO_UNDO_DEPTH=5", "INFO_BODY_LENGTH=6", "INFO_MERGE=7", "INFO_CAPACITY=8", "INFO_HISTORY_CAP=9",
            "BODY_MAX=64", "STOP_MAX=8", "DEPTH_MAX=4");

    private static final Set<String> METHODS = Set.of(
            "int feed(int)", "void clearSnippet()", "int expand()", "int typeChar(int)", "int backspace()",
            "int next()", "int prev()", "int escape()", "int setCaret(int)", "int undo()", "int charAt(int)",
            "int bodyCharAt(int)", "int info(int)", "int stopState(int)", "int stopPos(int,int)");

    private static final List<Class<?>> TYPES = List.of(
            int.class, long.class, short.class, byte.class, char.class, boolean.class,
            int[].class, long[].class, short[].class, byte[].class, char[].class, boolean[].class);

    public static void main(String[] args) throws IllegalAccessException {
        checkClass();
        checkFields();
        checkMethods();
        Check.finish();
    }

    private static void checkClass() {
        Class<?> type = SnippetSession.class;
        Check.same("modifiers", Modifier.toString(type.getModifiers()), "public final");
        Check.same("superclass", type.getSuperclass(), Object.class);
        Check.is("interfaces", type.getInterfaces().length, 0);
        Check.is("nested classes", type.getDeclaredClasses().length, 0);
        Constructor<?>[] constructors = type.getDeclaredConstructors();
        Check.is("constructors", constructors.length, 1);
        Check.same("constructor", constructors[0].toString(), "public SnippetSession(int,int)");
    }

    private static void checkFields() throws IllegalAccessException {
        Set<String> constants = new TreeSet<>();
        int instanceFields = 0;
        for (Field f : SnippetSession.class.getDeclaredFields()) {
            int m = f.getModifiers();
            Check.same("type of " + f.getName(), TYPES.contains(f.getType()), true);
            if (Modifier.isStatic(m)) {
                Check.same(f.getName() + " is a constant number",
                        Modifier.isFinal(m) && (f.getType() == int.class || f.getType() == long.class), true);
            } else {
                instanceFields++;
            }
            if (Modifier.isPublic(m)) {
                constants.add(f.getName() + "=" + f.get(null));
            } else {
                Check.same(f.getName() + " is private", Modifier.isPrivate(m), true);
            }
        }
        Check.same("public constants", constants, new TreeSet<>(CONSTANTS));
        Check.same("at most forty fields", instanceFields <= 40, true);
    }

    private static void checkMethods() {
        Set<String> publicOnes = new TreeSet<>();
        Set<String> publicNames = new TreeSet<>();
        Set<String> privateNames = new TreeSet<>();
        for (Method m : SnippetSession.class.getDeclaredMethods()) {
            Check.same("parameters of " + m.getName(), m.getParameterCount() <= 7, true);
            if (Modifier.isPublic(m.getModifiers())) {
                publicOnes.add(m.toString().replace("public ", "").replace("SnippetSession.", ""));
                publicNames.add(m.getName());
            } else {
                Check.same(m.getName() + " is private", Modifier.isPrivate(m.getModifiers()), true);
                Check.same(m.getName() + " answers no array", m.getReturnType().isArray(), false);
                privateNames.add(m.getName());
            }
        }
        Check.same("public methods", publicOnes, new TreeSet<>(METHODS));
        privateNames.retainAll(publicNames);
        Check.same("private methods with public names", privateNames, Set.of());
    }
}
