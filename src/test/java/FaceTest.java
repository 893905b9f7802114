import java.lang.reflect.Constructor;
import java.lang.reflect.Field;
import java.lang.reflect.Method;
import java.lang.reflect.Modifier;
import java.util.Arrays;
import java.util.Set;
import java.util.TreeSet;

/** The class has the document's face, with its throws clauses in their order, and nothing else to be seen. */
public final class FaceTest {
    private static final String[] FACE = {
        "void hex(int, int, int) IllegalStateException IllegalArgumentException",
        "int port(int, int) IllegalStateException IllegalArgumentException UnsupportedOperationException",
        "void deck(long) IllegalStateException",
        "void players(int, int) IllegalStateException IllegalArgumentException",
        "int place(int, int) IllegalArgumentException IllegalStateException UnsupportedOperationException",
        "int roll(int) IllegalStateException IllegalArgumentException",
        "int give(int, int) IllegalStateException IllegalArgumentException",
        "int block(int, int, int) IllegalStateException IllegalArgumentException",
        "int bank(int, int) IllegalArgumentException IllegalStateException",
        "void offer(int, int, int) IllegalArgumentException IllegalStateException",
        "int accept() IllegalStateException",
        "int buy() IllegalStateException",
        "int play(int, int, int) IllegalArgumentException IllegalStateException",
        "int pass() IllegalStateException",
        "int undo() IllegalStateException",
        "int phase()",
        "int turn()",
        "int winner()",
        "int goods(int, int) IndexOutOfBoundsException",
        "int cards(int, int) IndexOutOfBoundsException",
        "int points(int) IndexOutOfBoundsException",
        "int chain(int) IndexOutOfBoundsException",
        "int award()",
        "int owner(int, int) IndexOutOfBoundsException",
        "int legal(int)",
        "int forecast(int, int, int) IndexOutOfBoundsException IllegalArgumentException",
    };

    public static void main(String[] args) {
        Class<?> face = HexIsland.class;
        Checks.due("the class's modifiers", face.getModifiers(), Modifier.PUBLIC | Modifier.FINAL);
        Checks.due("NONE", HexIsland.NONE, -1);
        checkMethods(face);
        checkFields(face);
        checkConstructors(face);
        checkInside(face);
        Checks.end();
    }

    private static void checkMethods(Class<?> face) {
        Set<String> seen = new TreeSet<>();
        Set<String> publicNames = new TreeSet<>();
        Set<String> privateNames = new TreeSet<>();
        for (Method method : face.getDeclaredMethods()) {
            if (Modifier.isPrivate(method.getModifiers())) {
                privateNames.add(method.getName());
            } else {
                seen.add(told(method));
                publicNames.add(method.getName());
            }
        }
        Checks.due("the methods", seen.toString(), new TreeSet<>(Arrays.asList(FACE)).toString());
        privateNames.retainAll(publicNames);
        Checks.due("private methods named as public ones", privateNames.size(), 0);
    }

    private static String told(Method method) {
        StringBuilder text = new StringBuilder();
        if (method.getModifiers() != Modifier.PUBLIC) {
            text.append(Modifier.toString(method.getModifiers())).append(' ');
        }
        text.append(method.getReturnType()).append(' ').append(method.getName());
        text.append(Arrays.toString(method.getParameterTypes()).replace('[', '(').replace(']', ')'));
        for (Class<?> thrown : method.getExceptionTypes()) {
            text.append(' ').append(thrown.getSimpleName());
        }
        return text.toString();
    }

    private static void checkFields(Class<?> face) {
        for (Field field : face.getDeclaredFields()) {
            int modifiers = field.getModifiers();
            boolean isNone = field.getName().equals("NONE");
            Checks.due(field.getName() + " is private", Modifier.isPrivate(modifiers) ? 1 : 0, isNone ? 0 : 1);
            if (Modifier.isStatic(modifiers)) {
                Checks.due(field.getName() + " is final", Modifier.isFinal(modifiers) ? 1 : 0, 1);
            }
        }
    }

    private static void checkConstructors(Class<?> face) {
        Constructor<?>[] constructors = face.getDeclaredConstructors();
        Checks.due("how many constructors", constructors.length, 1);
        Checks.due("the constructor is public", constructors[0].getModifiers(), Modifier.PUBLIC);
        Checks.due("the constructor's parameters", constructors[0].getParameterCount(), 0);
    }

    private static void checkInside(Class<?> face) {
        for (Class<?> inside : face.getDeclaredClasses()) {
            int modifiers = inside.getModifiers();
            Checks.due(inside + " is static", Modifier.isStatic(modifiers) ? 1 : 0, 1);
            Checks.due(inside + " is hidden", Modifier.isPublic(modifiers) || Modifier.isProtected(modifiers) ? 1 : 0, 0);
        }
    }
}
