import java.lang.reflect.Constructor;
import java.lang.reflect.Field;
import java.lang.reflect.Method;
import java.lang.reflect.Modifier;
import java.util.Arrays;
import java.util.Set;
import java.util.TreeSet;

/** The class has the document's face, and no other member that is not private. */
public final class FaceTest {
    public static void main(String[] args) {
        constants();
        methods();
        constructorAndClass();
        noOtherMember();
        Check.end();
    }

    private static void constants() {
        Check.due("NOTHING", GhostKeys.NOTHING, 0);
        Check.due("CODE", GhostKeys.CODE, 1);
        Check.due("HELD", GhostKeys.HELD, 2);
        Check.due("LOCK", GhostKeys.LOCK, 3);
        Check.due("ARMED", GhostKeys.ARMED, 4);
        Check.due("TAP", GhostKeys.TAP, 5);
        Check.due("MACRO", GhostKeys.MACRO, 6);
        Check.due("NONE", GhostKeys.NONE, -1);
    }

    private static void methods() {
        Set<String> want = new TreeSet<>(Arrays.asList(
                "void wire(int, boolean) IndexOutOfBoundsException",
                "void bounce(int, int) IndexOutOfBoundsException, IllegalArgumentException",
                "int scan()",
                "int scans(int) IllegalArgumentException",
                "boolean poll()",
                "int report(int)",
                "int waiting()",
                "boolean late()",
                "void map(int, int, int, int, int) IndexOutOfBoundsException, IllegalArgumentException",
                "void macro(int, int, int) IndexOutOfBoundsException, IllegalArgumentException",
                "void chord(int, int, int) IndexOutOfBoundsException, IllegalArgumentException, "
                        + "IllegalStateException",
                "boolean on(int) IndexOutOfBoundsException",
                "int top(int) IndexOutOfBoundsException",
                "int key(int, int) IndexOutOfBoundsException",
                "int queued()",
                "int history(int)"));
        Set<String> got = new TreeSet<>();
        for (Method method : GhostKeys.class.getDeclaredMethods()) {
            if (Modifier.isPublic(method.getModifiers())) {
                got.add((method.getReturnType().getSimpleName() + " " + method.getName()
                        + "(" + names(method.getParameterTypes()) + ") "
                        + names(method.getExceptionTypes())).trim());
            }
        }
        Check.due("the public methods are " + got + ", that", got.equals(want), true);
    }

    private static String names(Class<?>[] types) {
        StringBuilder text = new StringBuilder();
        for (Class<?> type : types) {
            text.append(text.length() == 0 ? "" : ", ").append(type.getSimpleName());
        }
        return text.toString();
    }

    private static void constructorAndClass() {
        Constructor<?>[] constructors = GhostKeys.class.getDeclaredConstructors();
        Check.due("constructors", constructors.length, 1);
        Check.due("its parameters", constructors[0].getParameterCount(), 0);
        Check.due("it is public", Modifier.isPublic(constructors[0].getModifiers()), true);
        int modifiers = GhostKeys.class.getModifiers();
        Check.due("the class is public", Modifier.isPublic(modifiers), true);
        Check.due("the class is final", Modifier.isFinal(modifiers), true);
    }

    private static void noOtherMember() {
        for (Method method : GhostKeys.class.getDeclaredMethods()) {
            int modifiers = method.getModifiers();
            Check.due(method + " is public or private",
                    Modifier.isPublic(modifiers) || Modifier.isPrivate(modifiers), true);
        }
        int constants = 0;
        for (Field field : GhostKeys.class.getDeclaredFields()) {
            int modifiers = field.getModifiers();
            constants += Modifier.isPublic(modifiers) ? 1 : 0;
            Check.due(field + " is public or private",
                    Modifier.isPublic(modifiers) || Modifier.isPrivate(modifiers), true);
        }
        Check.due("public fields", constants, 8);
        for (Class<?> inside : GhostKeys.class.getDeclaredClasses()) {
            Check.due(inside + " is static", Modifier.isStatic(inside.getModifiers()), true);
        }
    }
}
