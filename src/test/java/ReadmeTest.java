import java.io.IOException;
import java.lang.reflect.Method;
import java.lang.reflect.Modifier;
import java.nio.file.DirectoryStream;
import java.nio.file.Files;
import java.nio.file.Path;
import java.util.ArrayList;
import java.util.List;
import java.util.Set;
import java.util.SortedMap;
import java.util.TreeMap;
import java.util.TreeSet;
import java.util.regex.Matcher;
import java.util.regex.Pattern;

/** Each call in the examples of README.md answers what README.md says there; all methods and all tests are in it. */
public final class ReadmeTest {
    private static final Path README = Path.of("README.md");
    private static final Path TESTS = Path.of("src/test/java");

    private static final String NEW_OBJECT = "ReachProver x = new ReachProver();";
    /** A call, then what it answers, then, behind a colon, why. */
    private static final Pattern CALL = Pattern.compile("x\\.(\\w+)\\(([-\\d, ]*)\\); +// (true|false|NONE|\\d+)(: .+)?");

    private static final Due due = new Due();

    public static void main(String[] args) throws IOException, ReflectiveOperationException {
        due.about(README.toString());
        List<String> lines = Files.readAllLines(README);
        tryExamples(lines);
        everyTestIsTold(String.join("\n", lines));
        due.end();
    }

    private static void tryExamples(List<String> lines) throws ReflectiveOperationException {
        Set<String> called = new TreeSet<>();
        ReachProver x = null;
        for (String line : examples(lines)) {
            Matcher call = CALL.matcher(line);
            if (line.equals(NEW_OBJECT)) {
                x = new ReachProver();
            } else if (x != null && call.matches()) {
                called.add(call.group(1));
                due.text("the answer to " + line, answer(x, call.group(1), call.group(2)), call.group(3));
            } else {
                due.truth("\"" + line + "\" is a call with its answer", false, true);
            }
        }
        due.text("the methods in the examples", String.join("\n", called), String.join("\n", publicMethods().keySet()));
    }

    /** The lines between a fence for Java and the next fence, but for empty ones. */
    private static List<String> examples(List<String> lines) {
        List<String> examples = new ArrayList<>();
        boolean inside = false;
        for (String line : lines) {
            if (line.startsWith("```")) {
                inside = line.equals("```java");
            } else if (inside && !line.isEmpty()) {
                examples.add(line);
            }
        }
        return examples;
    }

    private static String answer(ReachProver x, String name, String arguments) throws ReflectiveOperationException {
        Method method = publicMethods().get(name);
        if (method == null) {
            return "not given, as there is no such method";
        }
        Object answer = method.invoke(x, numbers(arguments));
        return answer.equals(ReachProver.NONE) ? "NONE" : answer.toString();
    }

    private static Object[] numbers(String arguments) {
        List<Object> numbers = new ArrayList<>();
        for (String number : arguments.split(", ")) {
            if (!number.isEmpty()) {
                numbers.add(Integer.valueOf(number));
            }
        }
        return numbers.toArray();
    }

    private static SortedMap<String, Method> publicMethods() {
        SortedMap<String, Method> methods = new TreeMap<>();
        for (Method method : ReachProver.class.getDeclaredMethods()) {
            if (Modifier.isPublic(method.getModifiers())) {
                methods.put(method.getName(), method);
            }
        }
        return methods;
    }

    private static void everyTestIsTold(String readme) throws IOException {
        try (DirectoryStream<Path> files = Files.newDirectoryStream(TESTS, "*.java")) {
            for (Path file : files) {
                String name = file.getFileName().toString().replace(".java", "");
                due.truth("`" + name + "` is told", readme.contains("`" + name + "`"), true);
            }
        }
    }
}
