import java.lang.reflect.Method;
import java.nio.file.Files;
import java.nio.file.Path;
import java.util.HashMap;
import java.util.Map;
import java.util.regex.Matcher;
import java.util.regex.Pattern;

/** Runs the examples of README.md one behind the other: each answers as its comment says. */
public final class ReadmeTest extends YardTest {
    private static final Pattern TEXT = Pattern.compile("^String text = \"([^\"]*)\";$");
    private static final Pattern CALL = Pattern.compile("^x\\.(\\w+)\\(([^)]*)\\);\\s+// (-?\\d+)\\b.*$");
    private static final Map<String, Method> METHODS = new HashMap<>();

    private static GrudgeYard x = new GrudgeYard();

    public static void main(String[] args) throws Exception {
        for (Method method : GrudgeYard.class.getDeclaredMethods()) {
            METHODS.put(method.getName(), method);
        }
        Path source = Path.of(args.length > 0 ? args[0] : "src/main/java/GrudgeYard.java").toAbsolutePath();
        String readme = Files.readString(source.getParent().resolve("../../../README.md"));
        boolean inExample = false;
        for (String line : readme.split("\n")) {
            if (line.startsWith("```")) {
                inExample = line.equals("```java");
            } else if (inExample) {
                runLine(line);
            }
        }
        for (Method method : GrudgeYard.class.getMethods()) {
            if (method.getDeclaringClass() == GrudgeYard.class) {
                due("an example of " + method.getName(), readme.contains("x." + method.getName() + "("));
            }
        }
        end("the readme's examples hold");
    }

    private static void runLine(String line) throws Exception {
        Matcher text = TEXT.matcher(line);
        Matcher call = CALL.matcher(line);
        if (text.matches()) {
            x = new GrudgeYard();
            feedAll(x, text.group(1));
        } else if (call.matches()) {
            due(line, answer(call.group(1), call.group(2)), Integer.parseInt(call.group(3)));
        } else {
            due("a line without an answer: " + line, !line.startsWith("x."));
        }
    }

    private static int answer(String name, String arguments) throws Exception {
        String[] words = arguments.isEmpty() ? new String[0] : arguments.split(", ");
        Object[] values = new Object[words.length];
        for (int i = 0; i < words.length; i++) {
            values[i] = valueOf(words[i]);
        }
        return (Integer) METHODS.get(name).invoke(x, values);
    }

    private static Object valueOf(String word) {
        if (word.equals("true") || word.equals("false")) {
            return word.equals("true");
        }
        return word.equals("GrudgeYard.NONE") ? NONE : Integer.parseInt(word);
    }
}
