import java.io.IOException;
import java.lang.reflect.Method;
import java.lang.reflect.Modifier;
import java.net.URL;
import java.net.URLClassLoader;
import java.nio.file.Files;
import java.nio.file.Path;
import java.util.ArrayList;
import java.util.Comparator;
import java.util.List;
import java.util.TreeSet;
import java.util.regex.Matcher;
import java.util.regex.Pattern;
import java.util.stream.Stream;
import javax.tools.ToolProvider;

/** The calls of README.md, compiled as they stand there, answer as README.md says that they do. */
public final class ReadmeTest {
    private static final Path README = Path.of("README.md");
    private static final Pattern CALL =
        Pattern.compile("(?:int (\\w+) = )?(house\\.(\\w+)\\([^;]*\\)); +// ([^:]+?)(?:: .+)?");
    private static final String NEW_HOUSE = "BookHouse house = new BookHouse();";

    private final List<String> code = new ArrayList<>();
    private final List<String> calls = new ArrayList<>();
    private final List<Long> due = new ArrayList<>();
    private final TreeSet<String> called = new TreeSet<>();
    private final List<String> strange = new ArrayList<>();

    private ReadmeTest() {
        boolean inside = false;
        for (String line : lines()) {
            if (line.startsWith("```")) inside = line.equals("```java");
            else if (inside) take(line);
        }
    }

    private static List<String> lines() {
        try {
            return Files.readAllLines(README);
        } catch (IOException missing) {
            return List.of();
        }
    }

    private void take(String line) {
        Matcher call = CALL.matcher(line);
        if (line.equals(NEW_HOUSE)) {
            code.add(line);
        } else if (call.matches()) {
            String name = call.group(1);
            if (name != null) code.add("int " + name + " = " + call.group(2) + ";");
            code.add("answers.add((long) " + (name == null ? call.group(2) : name) + ");");
            calls.add(line);
            called.add(call.group(3));
            due.add(number(call.group(4)));
        } else {
            strange.add(line);
        }
    }

    /** A number, a constant of the class, or LOST and another one. */
    private static long number(String text) {
        long sum = 0;
        for (String one : text.split(" \\+ ")) {
            sum += one.matches("-?[0-9]+") ? Long.parseLong(one) : constant(one);
        }
        return sum;
    }

    private static long constant(String name) {
        try {
            return BookHouse.class.getField(name).getInt(null);
        } catch (ReflectiveOperationException missing) {
            throw new IllegalStateException("README.md tells an answer that is no number: " + name, missing);
        }
    }

    private String program() {
        return "public final class ReadmeCalls {\n    public static java.util.List<Long> answers() {\n"
            + "java.util.List<Long> answers = new java.util.ArrayList<>();\n"
            + String.join("\n", code) + "\nreturn answers;\n    }\n}\n";
    }

    private List<?> answers() {
        try {
            Path dir = Files.createTempDirectory("readme");
            try {
                Path file = Files.writeString(dir.resolve("ReadmeCalls.java"), program());
                String classes = System.getProperty("java.class.path");
                int failed = ToolProvider.getSystemJavaCompiler()
                    .run(null, null, null, "-cp", classes, "-d", dir.toString(), file.toString());
                if (failed != 0) throw new IllegalStateException("README.md's calls do not compile");
                try (URLClassLoader loader = new URLClassLoader(new URL[] {dir.toUri().toURL()})) {
                    return (List<?>) loader.loadClass("ReadmeCalls").getMethod("answers").invoke(null);
                }
            } finally {
                delete(dir);
            }
        } catch (IOException | ReflectiveOperationException other) {
            throw new IllegalStateException(other);
        }
    }

    private static void delete(Path dir) throws IOException {
        try (Stream<Path> all = Files.walk(dir)) {
            for (Path one : all.sorted(Comparator.reverseOrder()).toList()) Files.delete(one);
        }
    }

    private static TreeSet<String> methods() {
        TreeSet<String> names = new TreeSet<>();
        for (Method m : BookHouse.class.getDeclaredMethods()) {
            if (Modifier.isPublic(m.getModifiers())) names.add(m.getName());
        }
        return names;
    }

    public static void main(String[] args) {
        Check.that("README: its calls answer as it says that they do", c -> {
            ReadmeTest readme = new ReadmeTest();
            List<?> got = readme.answers();
            c.due(readme.due.size(), got.size());
            c.due(!got.isEmpty());
            for (int i = 0; i < got.size(); i++) {
                if (!got.get(i).equals(readme.due.get(i))) c.wrong(readme.calls.get(i) + " answered " + got.get(i));
            }
        });
        Check.that("README: every method is called, each line tells its answer, 512 calls at most", c -> {
            ReadmeTest readme = new ReadmeTest();
            TreeSet<String> left = methods();
            left.removeAll(readme.called);
            if (!left.isEmpty()) c.wrong("not called: " + left);
            if (!readme.strange.isEmpty()) c.wrong("no calls with answers: " + readme.strange);
            c.due(readme.calls.size() <= 512);
        });
        Check.end();
    }
}
