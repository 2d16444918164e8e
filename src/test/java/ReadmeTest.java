import java.io.IOException;
import java.net.URL;
import java.net.URLClassLoader;
import java.nio.file.Files;
import java.nio.file.Path;
import java.util.ArrayList;
import java.util.List;
import java.util.Set;
import java.util.TreeSet;
import java.util.regex.Matcher;
import java.util.regex.Pattern;
import java.util.stream.Collectors;
import java.util.stream.Stream;
import javax.tools.JavaCompiler;
import javax.tools.ToolProvider;

/** README.md: the program that it shows is compiled and run, and each call answers what its comment begins with. */
public final class ReadmeTest {
    private static final Path README = Path.of("README.md"), TESTS = Path.of("src", "test", "java");
    private static final String PROGRAM = "ProgramOfReadme";
    // A call, perhaps kept under a name, and the answer that it is said to give: a number or a constant of the face.
    private static final Pattern CALL =
        Pattern.compile("(?:((?:int|long) (\\w+)) = )?(book\\.\\w+\\(.*\\)); +// (-?\\w+)(?:: .+)?");
    private static final String MAKING = "QuarrelBook book = new QuarrelBook();";

    private final List<String> lines = new ArrayList<>();
    private final List<String> calls = new ArrayList<>();

    public static void main(String[] args) throws IOException, ReflectiveOperationException {
        List<String> readme = Files.readAllLines(README);
        ReadmeTest test = new ReadmeTest();
        test.readProgram(readme);
        test.runProgram();
        howToRunTheTests(readme);
        everyTestIsListed(readme);
        Check.finish();
    }

    private void readProgram(List<String> readme) {
        boolean inside = false;
        for (String line : readme) {
            if (line.startsWith("```")) {
                inside = line.equals("```java");
            } else if (inside) {
                readLine(line);
            }
        }
        Check.holds("README.md shows a use of the class: " + calls.size() + " calls", calls.size() >= 10);
    }

    private void readLine(String line) {
        Matcher call = CALL.matcher(line);
        if (line.equals(MAKING)) {
            lines.add(line);
        } else if (call.matches()) {
            boolean kept = call.group(1) != null;
            if (kept) lines.add(call.group(1) + " = " + call.group(3) + ";");
            String answer = kept ? call.group(2) : call.group(3);
            lines.add("answers.add(new long[] {" + answer + ", " + valueOf(call.group(4)) + "});");
            calls.add(call.group(3));
        } else {
            Check.holds("README.md says what is answered in each line: " + line, line.isBlank());
        }
    }

    private static String valueOf(String due) {
        return Character.isUpperCase(due.charAt(0)) ? "QuarrelBook." + due : due;
    }

    private void runProgram() throws IOException, ReflectiveOperationException {
        Path work = Files.createTempDirectory("readme");
        try {
            Path source = work.resolve(PROGRAM + ".java");
            Files.writeString(source, program());
            if (!compiled(source, work)) return;
            List<?> answers = answersOf(work);
            Check.due("calls that answered", answers.size(), calls.size());
            for (int i = 0; i < answers.size(); i++) {
                long[] answer = (long[]) answers.get(i);
                Check.due("README.md, call " + (i + 1) + ": " + calls.get(i), answer[0], answer[1]);
            }
        } finally {
            remove(work);
        }
    }

    private String program() {
        return "public final class " + PROGRAM + " {\n"
            + "public static java.util.List<long[]> run() {\n"
            + "java.util.List<long[]> answers = new java.util.ArrayList<>();\n"
            + String.join("\n", lines)
            + "\nreturn answers;\n}\n}\n";
    }

    private static boolean compiled(Path source, Path work) {
        JavaCompiler compiler = ToolProvider.getSystemJavaCompiler();
        Check.holds("there is a compiler", compiler != null);
        if (compiler == null) return false;
        String here = System.getProperty("java.class.path");
        int result = compiler.run(null, null, null, "-cp", here, "-d", work.toString(), source.toString());
        Check.due("compiling the program of README.md", result, 0);
        return result == 0;
    }

    private static List<?> answersOf(Path work) throws IOException, ReflectiveOperationException {
        try (URLClassLoader loader = new URLClassLoader(new URL[] {work.toUri().toURL()})) {
            return (List<?>) loader.loadClass(PROGRAM).getMethod("run").invoke(null);
        }
    }

    private static void remove(Path work) throws IOException {
        try (Stream<Path> inside = Files.list(work)) {
            for (Path file : inside.collect(Collectors.toList())) Files.delete(file);
        }
        Files.delete(work);
    }

    private static void howToRunTheTests(List<String> readme) {
        Check.holds("README.md tells how to run the tests", readme.contains(".ci/run"));
        Check.holds(".ci/run can be run", Files.isExecutable(Path.of(".ci", "run")));
    }

    private static void everyTestIsListed(List<String> readme) throws IOException {
        Set<String> listed = new TreeSet<>();
        for (String line : readme) {
            Matcher row = Pattern.compile("\\| `(\\w+Test)` \\| .+ \\|").matcher(line);
            if (row.matches()) listed.add(row.group(1) + ".java");
        }
        try (Stream<Path> files = Files.list(TESTS)) {
            Set<String> there = files.map(file -> file.getFileName().toString())
                .filter(name -> name.endsWith("Test.java"))
                .collect(Collectors.toCollection(TreeSet::new));
            Check.holds("README.md lists " + there + ", not " + listed, there.equals(listed));
        }
    }
}
