import java.io.IOException;
import java.lang.reflect.Method;
import java.lang.reflect.Modifier;
import java.net.URL;
import java.net.URLClassLoader;
import java.nio.file.Files;
import java.nio.file.Path;
import java.util.ArrayList;
import java.util.Arrays;
import java.util.List;
import java.util.function.Supplier;
import java.util.regex.Matcher;
import java.util.regex.Pattern;
import java.util.stream.Collectors;
import javax.tools.ToolProvider;

/** The README's example answers what it says, and its tables name each call and what it throws. */
public final class ReadmeTest {
    private static final Path README = Path.of("README.md");
    private static final Pattern EXAMPLE = Pattern.compile("(?s)```java\n(.*?)```");
    private static final Pattern ANSWERED =
            Pattern.compile("(?m)^(quarrel\\.[^;]+);\\s+// (-?[0-9.]+): .*$");
    private static final Pattern ROW = Pattern.compile("(?m)^\\| `(\\w+)\\(([^)]*)\\)` \\|(.*)\\|$");
    private static final Pattern EXCEPTION = Pattern.compile("`(\\w+Exception)`");

    private ReadmeTest() {
    }

    public static void main(String[] args) throws IOException, ReflectiveOperationException {
        String readme = Files.readString(README);
        theExample(readme);
        theTables(readme);
        Check.end();
    }

    private static void theExample(String readme) throws IOException, ReflectiveOperationException {
        Matcher found = EXAMPLE.matcher(readme);
        Check.same("there is an example", true, found.find());
        String code = found.group(1);
        List<String> due = ANSWERED.matcher(code).results().map(r -> r.group(2)).toList();
        List<String> calls = ANSWERED.matcher(code).results().map(r -> r.group(1)).toList();
        Check.same("the example answers", true, due.size() >= 10);
        String kept = ANSWERED.matcher(code).replaceAll("answers.add(String.valueOf($1));");
        List<String> got = run(kept);
        Check.same("answers", due.size(), got.size());
        for (int i = 0; i < got.size() && i < due.size(); i++) {
            Check.same(calls.get(i), due.get(i), got.get(i));
        }
    }

    private static List<String> run(String code) throws IOException, ReflectiveOperationException {
        Path folder = Files.createTempDirectory("readme");
        Path file = folder.resolve("Example.java");
        Files.writeString(file, "public class Example"
                + " implements java.util.function.Supplier<java.util.List<String>> {\n"
                + "public java.util.List<String> get() {\n"
                + "java.util.List<String> answers = new java.util.ArrayList<>();\n"
                + code + "return answers; } }\n");
        int refused = ToolProvider.getSystemJavaCompiler().run(null, null, null, "-d",
                folder.toString(), "-cp", System.getProperty("java.class.path"), file.toString());
        Check.same("the example compiles", 0, refused);
        if (refused != 0) {
            return List.of();
        }
        URL[] places = {folder.toUri().toURL()};
        try (URLClassLoader loader = new URLClassLoader(places)) {
            Object example = loader.loadClass("Example").getConstructor().newInstance();
            List<String> answers = new ArrayList<>();
            for (Object answer : (List<?>) ((Supplier<?>) example).get()) {
                answers.add((String) answer);
            }
            return answers;
        } finally {
            Files.deleteIfExists(folder.resolve("Example.class"));
            Files.deleteIfExists(file);
            Files.deleteIfExists(folder);
        }
    }

    private static void theTables(String readme) {
        List<String> told = ROW.matcher(readme).results()
                .map(row -> row.group(1) + " " + parameters(row.group(2)) + " "
                        + EXCEPTION.matcher(row.group(3)).results().map(e -> e.group(1))
                                .collect(Collectors.joining(" ")))
                .sorted().toList();
        List<String> due = Arrays.stream(PamphletQuarrel.class.getDeclaredMethods())
                .filter(method -> Modifier.isPublic(method.getModifiers()))
                .map(ReadmeTest::told).sorted().toList();
        Check.same("calls", 49, due.size());
        Check.same("the calls of the tables", due, told);
    }

    private static int parameters(String list) {
        return list.isEmpty() ? 0 : list.split(", ").length;
    }

    private static String told(Method method) {
        return method.getName() + " " + method.getParameterCount() + " "
                + Arrays.stream(method.getExceptionTypes()).map(Class::getSimpleName)
                        .collect(Collectors.joining(" "));
    }
}
