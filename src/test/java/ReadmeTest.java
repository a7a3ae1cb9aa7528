import java.io.IOException;
import java.lang.reflect.Method;
import java.lang.reflect.Modifier;
import java.net.URL;
import java.net.URLClassLoader;
import java.nio.file.Files;
import java.nio.file.Path;
import java.util.ArrayList;
import java.util.List;
import java.util.regex.Matcher;
import java.util.regex.Pattern;
import java.util.stream.Stream;
import javax.tools.ToolProvider;

/** README.md: makes the very calls that its Java blocks show, and looks at the answers that stand beside them. */
public final class ReadmeTest {
    private static final Path README = Path.of("README.md");
    private static final Path TESTS = Path.of("src/test/java");
    private static final String NEW_OBJECT = "AggregateRows x = new AggregateRows();";
    /** A call, perhaps with a variable for its answer, and the answer behind // and before a colon. */
    private static final Pattern CALL =
            Pattern.compile("(\\w+ (\\w+) = )?(x\\.\\w+\\(.*\\)); +// (throws \\w+|[-\\w]+)(: .*)?");
    private static final int MOST_CALLS = 512;

    private final List<String> calls = new ArrayList<>();
    private final List<String> due = new ArrayList<>();
    private final StringBuilder program = new StringBuilder();

    public static void main(String[] args) throws Exception {
        ReadmeTest test = new ReadmeTest();
        test.readBlocks(Files.readAllLines(README));
        test.compareAnswers();
        test.everyCallOfTheFaceIsShown();
        everyTestIsNamed(Files.readString(README));
        System.out.println("calls of README.md: " + test.calls.size());
        Check.end();
    }

    /** All blocks are one program, as each goes on with the object of the one before it. */
    private void readBlocks(List<String> lines) {
        boolean inside = false;
        for (String line : lines) {
            if (line.startsWith("```")) {
                inside = line.equals("```java");
            } else if (inside) {
                readLine(line);
            }
        }
        Check.same("there are calls, no more than an object answers", true,
                !calls.isEmpty() && calls.size() <= MOST_CALLS);
    }

    private void readLine(String line) {
        Matcher call = CALL.matcher(line);
        if (line.equals(NEW_OBJECT)) {
            program.append(line).append('\n');
        } else if (call.matches()) {
            calls.add(call.group(3));
            due.add(call.group(4));
            program.append(call.group(1) == null ? asked(call.group(3)) : kept(call));
        } else {
            Check.same("an answer beside \"" + line + "\"", true, false);
        }
    }

    private static String asked(String call) {
        return "try { told.add(String.valueOf(" + call + ")); } catch (RuntimeException e) {"
                + " told.add(\"throws \" + e.getClass().getSimpleName()); }\n";
    }

    private static String kept(Matcher call) {
        return call.group(1) + call.group(3) + "; told.add(String.valueOf(" + call.group(2) + "));\n";
    }

    private void compareAnswers() throws Exception {
        Path directory = Files.createTempDirectory("readme");
        try {
            List<String> told = answers(directory);
            Check.same("how many answers", due.size(), told.size());
            for (int i = 0; i < Math.min(due.size(), told.size()); i++) {
                Check.same("README.md, call " + (i + 1) + ", " + calls.get(i), due.get(i), told.get(i));
            }
        } finally {
            delete(directory);
        }
    }

    /** What the calls answer; none if they are no Java. */
    private List<String> answers(Path directory) throws Exception {
        Path source = directory.resolve("ReadmeUse.java");
        Files.writeString(source, "public final class ReadmeUse {\n"
                + "public static void use(java.util.List<String> told) {\n" + program + "}\n}\n");
        int wrong = ToolProvider.getSystemJavaCompiler().run(null, null, null,
                "-cp", System.getProperty("java.class.path"), "-d", directory.toString(), source.toString());
        Check.same("what README.md shows is Java", 0, wrong);
        List<String> told = new ArrayList<>();
        if (wrong == 0) {
            try (URLClassLoader loader = new URLClassLoader(new URL[] {directory.toUri().toURL()})) {
                loader.loadClass("ReadmeUse").getMethod("use", List.class).invoke(null, told);
            }
        }
        return told;
    }

    private static void delete(Path directory) throws IOException {
        try (Stream<Path> files = Files.list(directory)) {
            for (Path file : files.toList()) {
                Files.delete(file);
            }
        }
        Files.delete(directory);
    }

    private void everyCallOfTheFaceIsShown() {
        for (Method method : AggregateRows.class.getDeclaredMethods()) {
            String shown = "x." + method.getName() + "(";
            Check.same("README.md shows " + method.getName(), true, !Modifier.isPublic(method.getModifiers())
                    || calls.stream().anyMatch(call -> call.startsWith(shown)));
        }
    }

    private static void everyTestIsNamed(String readme) throws IOException {
        try (Stream<Path> files = Files.list(TESTS)) {
            for (Path file : files.toList()) {
                String name = file.getFileName().toString().replace(".java", "");
                Check.same("README.md names " + name, true,
                        !name.endsWith("Test") || readme.contains("| `" + name + "` |"));
            }
        }
    }
}
