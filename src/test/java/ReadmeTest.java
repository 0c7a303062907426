import java.io.IOException;
import java.lang.reflect.InvocationTargetException;
import java.lang.reflect.Method;
import java.lang.reflect.Modifier;
import java.nio.file.Files;
import java.nio.file.Path;
import java.util.ArrayList;
import java.util.List;
import java.util.Set;
import java.util.TreeSet;
import java.util.regex.Matcher;
import java.util.regex.Pattern;

/** Makes the calls that README.md shows: each answers what stands beside it. */
public final class ReadmeTest {
    private static final String NEW_OBJECT = "CommonForests x = new CommonForests();";
    private static final Pattern CALL =
            Pattern.compile("x\\.(\\w+)\\(([^)]*)\\);\\s*// (true|false|-?\\d+)(:.*)?");

    private static final Check CHECK = new Check();
    private static final CommonForests X = new CommonForests();
    private static final Set<String> SHOWN = new TreeSet<>();

    public static void main(String[] args) throws IOException, ReflectiveOperationException {
        List<String> example = example(Files.readAllLines(Path.of("README.md")));
        CHECK.due("README.md makes an object first", example.indexOf(NEW_OBJECT), 0);
        for (String line : example) {
            if (!line.equals(NEW_OBJECT) && !line.isBlank()) {
                answersWhatItSays(line);
            }
        }
        for (Method method : CommonForests.class.getDeclaredMethods()) {
            if (Modifier.isPublic(method.getModifiers())) {
                CHECK.due("README.md shows " + method.getName(), SHOWN.contains(method.getName()), true);
            }
        }
        CHECK.end();
    }

    /** The lines of the one part that is marked as Java. */
    private static List<String> example(List<String> lines) {
        List<String> example = new ArrayList<>();
        int from = lines.indexOf("```java") + 1;
        for (int i = from; from > 0 && i < lines.size() && !lines.get(i).equals("```"); i++) {
            example.add(lines.get(i));
        }
        return example;
    }

    private static void answersWhatItSays(String line) throws ReflectiveOperationException {
        Matcher call = CALL.matcher(line);
        boolean isCall = call.matches();
        CHECK.due("README.md has a call and its answer in: " + line, isCall, true);
        if (isCall) {
            SHOWN.add(call.group(1));
            String got = answer(call.group(1), call.group(2).split(", "));
            CHECK.due("README.md says rightly: " + line + " (answered " + got + ")",
                    got.equals(call.group(3)), true);
        }
    }

    private static String answer(String name, String[] texts) throws ReflectiveOperationException {
        for (Method method : CommonForests.class.getDeclaredMethods()) {
            if (method.getName().equals(name) && method.getParameterCount() == texts.length) {
                return called(method, texts);
            }
        }
        return "no such method";
    }

    private static String called(Method method, String[] texts)
            throws IllegalAccessException, InvocationTargetException {
        Object[] values = new Object[texts.length];
        for (int i = 0; i < texts.length; i++) {
            boolean isBoolean = method.getParameterTypes()[i] == boolean.class;
            values[i] = isBoolean ? (Object) Boolean.valueOf(texts[i]) : Integer.valueOf(texts[i]);
        }
        return String.valueOf(method.invoke(X, values));
    }
}
