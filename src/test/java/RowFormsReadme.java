import java.io.ByteArrayOutputStream;
import java.io.IOException;
import java.lang.reflect.Field;
import java.lang.reflect.Method;
import java.lang.reflect.Modifier;
import java.net.URL;
import java.net.URLClassLoader;
import java.nio.charset.StandardCharsets;
import java.nio.file.Files;
import java.nio.file.Path;
import java.util.ArrayList;
import java.util.List;
import java.util.Set;
import java.util.TreeSet;
import java.util.regex.Matcher;
import java.util.regex.Pattern;
import java.util.stream.Stream;
import javax.tools.JavaCompiler;
import javax.tools.ToolProvider;

/** README.md: its examples compile as they stand there, and each answer that they show is the one that is given. */
public final class RowFormsReadme extends Due {
    private static final String PAGE = "README.md";
    private static final String FENCE = "```";
    /** A line that is a call, and behind // its answer: a number, a constant's name, or a sign; then words, if any. */
    private static final Pattern SHOWN = Pattern.compile("(x\\.(\\w+)\\(.*\\)); +// (-?\\d+|[A-Z]+|'.')(: .*)?");
    private static final Pattern CALL_WITH_NUMBERS = Pattern.compile("`[^`]*\\w\\(['-]?\\d[^`]*`");

    /** A line of an example, and its number on the page. */
    private record Line(int number, String text) {
    }

    /** A call whose answer the page shows. */
    private record Call(Line line, String code, String name, String answer) {
        private static Call of(Line line) {
            Matcher shown = SHOWN.matcher(line.text());
            return shown.matches() ? new Call(line, shown.group(1), shown.group(2), shown.group(3)) : null;
        }

        private String want() {
            return Character.isLetter(answer.charAt(0)) ? "RowForms." + answer : answer;
        }
    }

    public static void main(String[] args) throws IOException, ReflectiveOperationException {
        List<List<Line>> examples = examples(Files.readAllLines(Path.of(PAGE)));
        List<Call> calls = calls(examples);
        answersAreAsShown(examples, calls);
        allCallsAreShown(calls);
        allConstantsAreShown(calls);
        allFilesAreNamed(Files.readString(Path.of(PAGE)));
        end();
    }

    /** The blocks of Java on the page; outside of these, no answer of a call could be tried. */
    private static List<List<Line>> examples(List<String> page) {
        sentence("README.md shows calls in examples alone");
        List<List<Line>> examples = new ArrayList<>();
        String block = "";
        for (int k = 0; k < page.size(); k++) {
            Line line = new Line(k + 1, page.get(k));
            if (line.text().startsWith(FENCE)) {
                block = block.isEmpty() ? line.text() : "";
                if (block.equals(FENCE + "java")) {
                    examples.add(new ArrayList<>());
                }
            } else if (block.equals(FENCE + "java")) {
                examples.get(examples.size() - 1).add(line);
            } else {
                boolean isCall = isCall(line) || CALL_WITH_NUMBERS.matcher(line.text()).find();
                due("line " + line.number() + " outside of an example", isCall ? "a call" : "no call", "no call");
            }
        }
        return examples;
    }

    private static boolean isCall(Line line) {
        return line.text().strip().startsWith("x.");
    }

    private static List<Call> calls(List<List<Line>> examples) {
        sentence("README.md shows the answer of each call");
        List<Call> calls = new ArrayList<>();
        for (List<Line> example : examples) {
            for (Line line : example) {
                Call call = Call.of(line);
                if (call != null) {
                    calls.add(call);
                } else {
                    due("line " + line.number(), isCall(line) ? "a call without an answer" : "no call", "no call");
                }
            }
        }
        return calls;
    }

    private static void answersAreAsShown(List<List<Line>> examples, List<Call> calls)
        throws IOException, ReflectiveOperationException {
        sentence("README.md shows what the class answers");
        List<int[]> answers = run(source(examples));
        due("answers of the examples", answers.size(), calls.size());
        for (int k = 0; k < answers.size(); k++) {
            Call call = calls.get(k);
            due("line " + call.line().number() + ": " + call.code(), answers.get(k)[0], answers.get(k)[1]);
        }
    }

    /** A class whose method lists the answers that are given, each with the one that is shown. */
    private static String source(List<List<Line>> examples) {
        StringBuilder methods = new StringBuilder();
        StringBuilder all = new StringBuilder();
        for (int k = 0; k < examples.size(); k++) {
            all.append("example").append(k).append("(answers);\n");
            methods.append("private static void example").append(k).append("(java.util.List<int[]> answers) {\n");
            for (Line line : examples.get(k)) {
                Call call = Call.of(line);
                methods.append(call == null ? line.text()
                    : "answers.add(new int[] {" + call.code() + ", " + call.want() + "});").append('\n');
            }
            methods.append("}\n");
        }
        return "public final class Examples {\npublic static void run(java.util.List<int[]> answers) {\n" + all + "}\n"
            + methods + "}\n";
    }

    private static List<int[]> run(String source) throws IOException, ReflectiveOperationException {
        Path directory = Files.createTempDirectory("readme");
        Path file = directory.resolve("Examples.java");
        Path compiled = directory.resolve("Examples.class");
        List<int[]> answers = new ArrayList<>();
        try {
            Files.writeString(file, source);
            if (compiles(file)) {
                URL[] path = {directory.toUri().toURL()};
                try (URLClassLoader loader = new URLClassLoader(path, RowFormsReadme.class.getClassLoader())) {
                    loader.loadClass("Examples").getMethod("run", List.class).invoke(null, answers);
                }
            }
        } finally {
            Files.deleteIfExists(compiled);
            Files.deleteIfExists(file);
            Files.deleteIfExists(directory);
        }
        return answers;
    }

    private static boolean compiles(Path file) {
        JavaCompiler compiler = ToolProvider.getSystemJavaCompiler();
        if (compiler == null) {
            due("a compiler for the examples", "missing", "there");
            return false;
        }
        ByteArrayOutputStream faults = new ByteArrayOutputStream();
        String path = System.getProperty("java.class.path");
        int code = compiler.run(null, faults, faults, "--release", "17", "-cp", path, file.toString());
        due("the compiler", code == 0 ? "" : faults.toString(StandardCharsets.UTF_8), "");
        return code == 0;
    }

    private static void allCallsAreShown(List<Call> calls) {
        sentence("README.md shows an answer of every call");
        Set<String> shown = new TreeSet<>();
        calls.forEach(call -> shown.add(call.name()));
        for (Method method : RowForms.class.getDeclaredMethods()) {
            if (Modifier.isPublic(method.getModifiers())) {
                due(method.getName(), shown.contains(method.getName()) ? "shown" : "not shown", "shown");
            }
        }
    }

    private static void allConstantsAreShown(List<Call> calls) {
        sentence("README.md shows a call for every constant");
        Set<String> shown = new TreeSet<>();
        calls.forEach(call -> shown.add(call.answer()));
        for (Field field : RowForms.class.getDeclaredFields()) {
            if (Modifier.isPublic(field.getModifiers())) {
                due(field.getName(), shown.contains(field.getName()) ? "shown" : "not shown", "shown");
            }
        }
    }

    private static void allFilesAreNamed(String page) throws IOException {
        sentence("README.md says what each test file is for");
        for (String directory : new String[] {"src/test/java", "src/test/support"}) {
            try (Stream<Path> files = Files.list(Path.of(directory))) {
                for (Path file : files.sorted().toList()) {
                    String name = directory + "/" + file.getFileName();
                    due(name, page.contains("| `" + name + "` | ") ? "named" : "not named", "named");
                }
            }
        }
    }
}
