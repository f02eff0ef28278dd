import java.lang.reflect.Constructor;
import java.lang.reflect.Field;
import java.lang.reflect.Method;
import java.lang.reflect.Modifier;
import java.util.Arrays;
import java.util.HashSet;
import java.util.Set;
import java.util.TreeSet;
import java.util.stream.Collectors;

/** The public face, member by member. */
public final class FaceTest {
    private static final String[] FACE = {
        "int window(int, int, int, int, int) IllegalArgumentException IndexOutOfBoundsException IllegalStateException",
        "int rope(int, int, boolean) IndexOutOfBoundsException IllegalArgumentException IllegalStateException",
        "int feast(int, int) IllegalArgumentException IllegalStateException",
        "int setWind(int) IllegalArgumentException",
        "int move(int, int) IndexOutOfBoundsException IllegalStateException",
        "boolean turn(int) IndexOutOfBoundsException",
        "int wipe(int) IndexOutOfBoundsException",
        "int pass(int) IllegalArgumentException",
        "int soot(int, int) IndexOutOfBoundsException",
        "int about(int, int) IndexOutOfBoundsException",
        "int told(int, int) IndexOutOfBoundsException",
        "int count(int) IndexOutOfBoundsException",
        "boolean isFeast(int) IllegalArgumentException",
        "int next()",
        "int would(int, int) IllegalArgumentException IndexOutOfBoundsException",
        "int until(int) IndexOutOfBoundsException",
        "int advise(int) IndexOutOfBoundsException IllegalStateException",
        "double mean()",
        "long digest()"};

    public static void main(String[] args) {
        classItself();
        methodsOfTheFace();
        otherMembersAreHidden();
        Due.end();
    }

    private static void classItself() {
        Due.same("the class is public and final", GlassRopes.class.getModifiers(), Modifier.PUBLIC | Modifier.FINAL);
        Constructor<?>[] made = GlassRopes.class.getDeclaredConstructors();
        Due.same("how many constructors", made.length, 1);
        Due.same("the constructor", made[0].toString(), "public GlassRopes()");
    }

    private static void methodsOfTheFace() {
        Set<String> found = new TreeSet<>();
        for (Method m : GlassRopes.class.getDeclaredMethods()) {
            if (!Modifier.isPrivate(m.getModifiers())) {
                Due.same("modifiers of " + m.getName(), m.getModifiers(), Modifier.PUBLIC);
                found.add(told(m));
            }
        }
        Due.same("the methods", String.join("\n", found), String.join("\n", new TreeSet<>(Arrays.asList(FACE))));
    }

    private static String told(Method m) {
        String types = Arrays.stream(m.getParameterTypes()).map(Class::getSimpleName).collect(Collectors.joining(", "));
        StringBuilder text = new StringBuilder(m.getReturnType().getSimpleName() + " " + m.getName() + "(" + types + ")");
        for (Class<?> thrown : m.getExceptionTypes()) {
            text.append(' ').append(thrown.getSimpleName());
        }
        return text.toString();
    }

    private static void otherMembersAreHidden() {
        for (Field f : GlassRopes.class.getDeclaredFields()) {
            Due.same("private: " + f.getName(), Modifier.isPrivate(f.getModifiers()), true);
            Due.same("final: " + f.getName(), Modifier.isFinal(f.getModifiers()), true);
        }
        Set<String> names = new HashSet<>();
        for (String line : FACE) {
            names.add(line.substring(line.indexOf(' ') + 1, line.indexOf('(')));
        }
        for (Method m : GlassRopes.class.getDeclaredMethods()) {
            if (Modifier.isPrivate(m.getModifiers())) {
                Due.same("a private method with a name of the face: " + m.getName(), names.contains(m.getName()), false);
            }
        }
        for (Class<?> inside : GlassRopes.class.getDeclaredClasses()) {
            int modifiers = inside.getModifiers();
            Due.same("static: " + inside.getName(), Modifier.isStatic(modifiers), true);
            Due.same("public: " + inside.getName(), Modifier.isPublic(modifiers) || Modifier.isProtected(modifiers), false);
            for (Method m : inside.getDeclaredMethods()) {
                Due.same("a name of the face inside: " + m.getName(), names.contains(m.getName()), false);
            }
        }
    }
}
