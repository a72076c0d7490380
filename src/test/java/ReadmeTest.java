import java.io.IOException;
import java.lang.reflect.Method;
import java.lang.reflect.Modifier;
import java.net.URL;
import java.net.URLClassLoader;
import java.nio.file.Files;
import java.nio.file.Path;
import java.util.ArrayList;
import java.util.List;
import java.util.Set;
import java.util.TreeSet;
import java.util.regex.Matcher;
import java.util.regex.Pattern;
import java.util.stream.Stream;
import javax.tools.JavaCompiler;
import javax.tools.ToolProvider;

/** README.md: its example is run as it stands, and answers what is told there; and it leaves nothing out. */
public final class ReadmeTest {
    private static final Path README = Path.of("README.md");
    private static final Path TESTS = Path.of("src/test/java");
    private static final Path BUILD = Path.of("build/ReadmeExample");
    private static final Pattern MAKES = Pattern.compile("WinProofs x = new WinProofs\\(\\);");
    private static final Pattern TELLS =
            Pattern.compile("(?:int (\\w+) = )?(x\\.(\\w+)\\([^;]*\\));\\s+// (NONE|BAD|FULL|-?\\d+): \\S.*");

    private static int checked = 0;
    private static int wrong = 0;

    /** A line of the example that calls, with the answer that README.md tells. */
    private record Told(int line, String variable, String call, String method, long answer) { }

    private static void due(boolean right, String what) {
        checked++;
        if (!right) {
            wrong++;
            System.out.println("README.md: " + what);
        }
    }

    private static long numberOf(String answer) {
        return switch (answer) {
            case "NONE" -> WinProofs.NONE;
            case "BAD" -> WinProofs.BAD;
            case "FULL" -> WinProofs.FULL;
            default -> Long.parseLong(answer);
        };
    }

    /** Each line between the marks is empty, makes the object, or is a call that tells its answer. */
    private static List<Told> readExample(List<String> lines) {
        List<Told> example = new ArrayList<>();
        int from = lines.indexOf("```java") + 1;
        due(from > 0, "an example of use");
        due(from > 0 && MAKES.matcher(lines.get(from)).matches(), "the example begins with a new object");
        for (int i = from + 1; i < lines.size() && !lines.get(i).equals("```"); i++) {
            Matcher told = TELLS.matcher(lines.get(i));
            if (told.matches()) {
                example.add(new Told(i + 1, told.group(1), told.group(2), told.group(3), numberOf(told.group(4))));
            } else {
                due(lines.get(i).isBlank(), "line " + (i + 1) + " tells no answer: " + lines.get(i));
            }
        }
        return example;
    }

    private static String programOf(List<Told> example) {
        StringBuilder text = new StringBuilder("public final class ReadmeExample {\n");
        text.append("public static long[] answers() {\n");
        text.append("long[] answers = new long[").append(example.size()).append("];\n");
        text.append("WinProofs x = new WinProofs();\n");
        for (int i = 0; i < example.size(); i++) {
            Told told = example.get(i);
            String answers = "answers[" + i + "] = ";
            if (told.variable == null) {
                text.append(answers).append(told.call).append(";\n");
            } else {
                text.append("int ").append(told.variable).append(" = ").append(told.call).append(";\n");
                text.append(answers).append(told.variable).append(";\n");
            }
        }
        return text.append("return answers;\n}\n}\n").toString();
    }

    private static long[] run(String program) throws IOException, ReflectiveOperationException {
        Files.createDirectories(BUILD);
        Path source = BUILD.resolve("ReadmeExample.java");
        Files.writeString(source, program);
        JavaCompiler javac = ToolProvider.getSystemJavaCompiler();
        int failed = javac.run(null, null, null, "--release", "17", "-cp", System.getProperty("java.class.path"),
                "-d", BUILD.toString(), source.toString());
        if (failed != 0) {
            return new long[0];
        }
        URL[] places = {BUILD.toUri().toURL()};
        try (URLClassLoader loader = new URLClassLoader(places)) {
            return (long[]) loader.loadClass("ReadmeExample").getMethod("answers").invoke(null);
        }
    }

    private static void lookAtExample(List<Told> example) throws IOException, ReflectiveOperationException {
        long[] answers = run(programOf(example));
        due(answers.length == example.size(), "the example is Java, and all of it runs");
        for (int i = 0; i < answers.length; i++) {
            Told told = example.get(i);
            due(answers[i] == told.answer,
                    "line " + told.line + " tells " + told.answer + ", but " + told.call + " answers " + answers[i]);
        }
        due(example.size() <= 511, "the example is of at most 512 calls");
    }

    private static void lookAtCalls(String text, List<Told> example) {
        Set<String> used = new TreeSet<>();
        for (Told told : example) {
            used.add(told.method);
        }
        for (Method method : WinProofs.class.getDeclaredMethods()) {
            if (Modifier.isPublic(method.getModifiers())) {
                due(used.contains(method.getName()), "the example leaves out " + method.getName());
                int parameters = method.getParameterCount();
                String names = parameters == 0 ? "" : "\\w+(, \\w+){" + (parameters - 1) + "}";
                Pattern row = Pattern.compile("(?m)^\\| `" + method.getName() + "\\(" + names + "\\)` \\|");
                due(row.matcher(text).find(), "the table leaves out " + method.getName());
            }
        }
    }

    private static void lookAtTests(String text) throws IOException {
        due(text.contains("\n    .ci/run\n"), "how to run the tests");
        due(Files.isExecutable(Path.of(".ci/run")), ".ci/run can be run");
        Set<String> there = new TreeSet<>();
        try (Stream<Path> files = Files.list(TESTS)) {
            files.forEach(file -> there.add(file.getFileName().toString().replace(".java", "")));
        }
        Set<String> told = new TreeSet<>();
        Matcher test = Pattern.compile("(?m)^- `(\\w+Test)`: ").matcher(text);
        while (test.find()) {
            told.add(test.group(1));
        }
        due(told.equals(there), "it tells of the tests " + told + ", there are " + there);
    }

    public static void main(String[] args) throws IOException, ReflectiveOperationException {
        String text = Files.readString(README);
        List<Told> example = readExample(text.lines().toList());
        lookAtExample(example);
        lookAtCalls(text, example);
        lookAtTests(text);
        System.out.println("ReadmeTest: " + checked + " looked at, " + wrong + " wrong");
        if (wrong != 0) {
            System.exit(1);
        }
    }
}
