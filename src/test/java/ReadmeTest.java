import java.io.IOException;
import java.lang.reflect.InvocationTargetException;
import java.lang.reflect.Method;
import java.lang.reflect.Modifier;
import java.nio.charset.StandardCharsets;
import java.nio.file.Files;
import java.nio.file.Path;
import java.util.ArrayList;
import java.util.HashMap;
import java.util.List;
import java.util.Map;
import java.util.regex.Matcher;
import java.util.regex.Pattern;

/** What README.md says of the class is so: its game, its picture, its rows of calls. */
public final class ReadmeTest {
    private static final Pattern GAME_CALL = Pattern.compile("game\\.(\\w+)\\((.*)\\);\\s+// (.*)");
    private static final Pattern CALL_ROW = Pattern.compile("\\| `(\\w+)\\((.*?)\\)` \\| .+ \\|(.*)\\|");
    private static final Pattern SHORT_NAME = Pattern.compile("\\b(ISE|IAE|UOE|IOOBE)\\b");
    private static final Map<Class<?>, String> SHORT_NAMES = Map.of(
        IllegalStateException.class, "ISE",
        IllegalArgumentException.class, "IAE",
        UnsupportedOperationException.class, "UOE",
        IndexOutOfBoundsException.class, "IOOBE");

    public static void main(String[] args) throws IOException {
        String readme = Files.readString(Path.of("README.md"), StandardCharsets.UTF_8);
        Checks.sentence("README.md says how an object is made and used");
        playTheGame(readme);
        Checks.due("the picture of the island is in it", readme.contains(Picture.drawn()) ? 1 : 0, 1);
        Checks.sentence("README.md says which calls there are");
        compareTheCalls(readme);
        Checks.sentence("README.md says the command that runs all tests");
        Checks.due("the command is in it", readme.contains("\n    .ci/run\n") ? 1 : 0, 1);
        compareTheTests(readme);
        Checks.end();
    }

    private static void playTheGame(String readme) {
        HexIsland game = new HexIsland();
        String code = readme.substring(readme.indexOf("```java\n") + 8);
        code = code.substring(0, code.indexOf("```"));
        int calls = 0;
        for (String line : code.split("\n")) {
            Matcher call = GAME_CALL.matcher(line);
            if (call.matches()) {
                String told = call.group(3);
                String got = outcome(game, call.group(1), call.group(2));
                Checks.due(line, got.isEmpty() ? got : told.substring(0, Math.max(0, told.indexOf(':'))), got);
                calls++;
            } else {
                boolean known = line.isEmpty() || line.startsWith("// ") || line.equals("HexIsland game = new HexIsland();");
                Checks.due("a line without a call: " + line, known ? 1 : 0, 1);
            }
        }
        Checks.due("the game has calls, and not too many", calls > 0 && calls <= 512 ? 1 : 0, 1);
        Checks.due("who has won the game", game.winner(), 0);
    }

    /** The answer, the exception's name, or nothing for a call that answers nothing. */
    private static String outcome(HexIsland game, String name, String arguments) {
        try {
            Method method = publicMethods().get(name);
            Object answer = method.invoke(game, parsed(arguments, method.getParameterTypes()));
            return answer == null ? "" : answer.toString();
        } catch (InvocationTargetException e) {
            return e.getCause().getClass().getSimpleName();
        } catch (ReflectiveOperationException e) {
            return "not called: " + e;
        }
    }

    private static Object[] parsed(String arguments, Class<?>[] types) {
        Object[] values = new Object[types.length];
        String[] texts = arguments.split(", ");
        for (int k = 0; k < types.length; k++) {
            String text = texts[k].equals("HexIsland.NONE") ? "-1" : texts[k].replace("L", "");
            values[k] = types[k] == long.class ? (Object) Long.decode(text) : (Object) Integer.decode(text);
        }
        return values;
    }

    private static Map<String, Method> publicMethods() {
        Map<String, Method> methods = new HashMap<>();
        for (Method method : HexIsland.class.getDeclaredMethods()) {
            if (Modifier.isPublic(method.getModifiers())) {
                methods.put(method.getName(), method);
            }
        }
        return methods;
    }

    private static void compareTheCalls(String readme) {
        Map<String, Method> methods = publicMethods();
        int rows = 0;
        for (String line : readme.split("\n")) {
            Matcher row = CALL_ROW.matcher(line);
            if (row.matches()) {
                rows++;
                String name = row.group(1);
                Method method = methods.remove(name);
                Checks.due("a call " + name + " told once", method == null ? 0 : 1, 1);
                if (method != null) {
                    compareTheCall(method, row.group(2), row.group(3));
                }
            }
        }
        Checks.due("rows of calls", rows, 26);
        Checks.due("calls without a row", methods.keySet().toString(), "[]");
    }

    private static void compareTheCall(Method method, String parameters, String reasons) {
        int told = parameters.isEmpty() ? 0 : parameters.split(", ").length;
        Checks.due("parameters of " + method.getName(), told, method.getParameterCount());
        List<String> names = new ArrayList<>();
        Matcher name = SHORT_NAME.matcher(reasons);
        while (name.find()) {
            names.add(name.group());
        }
        List<String> due = new ArrayList<>();
        for (Class<?> thrown : method.getExceptionTypes()) {
            due.add(SHORT_NAMES.get(thrown));
        }
        Checks.due("exceptions of " + method.getName(), names.toString(), due.toString());
    }

    private static void compareTheTests(String readme) throws IOException {
        try (var files = Files.list(Path.of("src/test/java"))) {
            for (Path file : (Iterable<Path>) files::iterator) {
                String name = file.getFileName().toString().replace(".java", "");
                if (name.endsWith("Test")) {
                    Checks.due(name + " is told", readme.contains("`" + name + "`") ? 1 : 0, 1);
                }
            }
        }
    }
}
