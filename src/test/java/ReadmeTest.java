import java.io.IOException;
import java.lang.reflect.Field;
import java.lang.reflect.Method;
import java.lang.reflect.Modifier;
import java.net.URL;
import java.net.URLClassLoader;
import java.nio.file.Files;
import java.nio.file.Path;
import java.util.ArrayList;
import java.util.List;
import java.util.Set;
import java.util.TreeSet;
import java.util.regex.Matcher;
import java.util.regex.Pattern;
import java.util.stream.Stream;
import javax.tools.ToolProvider;

/** README.md: what it shows compiles, and the class answers what it tells. */
public final class ReadmeTest {
    private static final Path README = Path.of("README.md");
    private static final Path TESTS = Path.of("src/test/java");

    private static final Pattern MAKING =
        Pattern.compile("PouredTopmost x = new PouredTopmost\\(\\);");
    /** A call, and behind it what it answers: a number or a constant, perhaps with words. */
    private static final Pattern CALL =
        Pattern.compile("((?:x\\.(\\w+)|write)\\(.*\\)); +// (-?\\d+|[A-Z]+): (\\S.*)");
    /** An amount among the words. */
    private static final Pattern FRACTION = Pattern.compile("\\b(\\d+)/(\\d+)\\b");
    private static final Pattern PART = Pattern.compile(", [01]\\)$");
    private static final Pattern CONSTANT_ROW =
        Pattern.compile("\\| `([A-Z]+)` \\| (-?\\d+) \\| .+ \\|");
    private static final Pattern TEST_ROW = Pattern.compile("\\| `(\\w+Test)` \\| .+ \\|");

    private final List<String> functions = new ArrayList<>();
    private final List<String> statements = new ArrayList<>();
    private final List<String> calls = new ArrayList<>();
    private final List<Long> told = new ArrayList<>();
    private final Set<String> shown = new TreeSet<>();

    public static void main(String[] args) throws Exception {
        List<String> lines = Files.readAllLines(README);
        ReadmeTest test = new ReadmeTest();
        for (List<String> block : blocksOf(lines)) {
            test.read(block);
        }
        test.callsAnswerAsTold();
        test.everyCallIsShown();
        constantsAreAsTold(lines);
        testsAreAsTold(lines);
        Check.isTrue(".ci/run can be run", Files.isExecutable(Path.of(".ci/run")));
        Check.end();
    }

    /** What stands between the marks of Java. */
    private static List<List<String>> blocksOf(List<String> lines) {
        List<List<String>> blocks = new ArrayList<>();
        boolean inside = false;
        for (String line : lines) {
            if (line.startsWith("```")) {
                inside = line.equals("```java");
                if (inside) {
                    blocks.add(new ArrayList<>());
                }
            } else if (inside) {
                blocks.get(blocks.size() - 1).add(line);
            }
        }
        return blocks;
    }

    private void read(List<String> block) {
        if (!block.isEmpty() && block.get(0).startsWith("static ")) {
            functions.addAll(block);
            return;
        }
        for (String line : block) {
            Matcher call = CALL.matcher(line);
            if (call.matches()) {
                tell(call.group(1), number(call.group(3)));
                tellFraction(call.group(1), call.group(4));
                if (call.group(2) != null) {
                    shown.add(call.group(2));
                }
            } else {
                Check.isTrue("a call with its answer: " + line, MAKING.matcher(line).matches());
                statements.add(line);
            }
        }
    }

    private void tell(String call, long answer) {
        statements.add("answers.add((long) " + call + ");");
        calls.add(call);
        told.add(answer);
    }

    /** A call of one part whose words tell both: each of them is asked. */
    private void tellFraction(String call, String words) {
        Matcher fraction = FRACTION.matcher(words);
        Matcher part = PART.matcher(call);
        if (fraction.find() && part.find()) {
            tell(part.replaceFirst(", 0)"), Long.parseLong(fraction.group(1)));
            tell(part.replaceFirst(", 1)"), Long.parseLong(fraction.group(2)));
        }
    }

    private static long number(String text) {
        return Character.isLetter(text.charAt(0)) ? constant(text) : Long.parseLong(text);
    }

    private static long constant(String name) {
        try {
            return PouredTopmost.class.getField(name).getInt(null);
        } catch (ReflectiveOperationException none) {
            Check.isTrue("the class has a constant " + name, false);
            return 0;
        }
    }

    private void callsAnswerAsTold() throws Exception {
        Check.isTrue("README.md shows calls", calls.size() >= 20);
        Path folder = Files.createTempDirectory("readme");
        try {
            List<Long> answers = answersOf(folder);
            Check.due("calls that answered", answers.size(), calls.size());
            for (int i = 0; i < Math.min(answers.size(), calls.size()); i++) {
                Check.due("README.md: " + calls.get(i), answers.get(i), told.get(i));
            }
        } finally {
            remove(folder);
        }
    }

    /** The answers of the run, made into a program and compiled as a reader would. */
    private List<Long> answersOf(Path folder) throws Exception {
        List<String> program = new ArrayList<>();
        program.add("public final class ReadmeRun {");
        program.addAll(functions);
        program.add("public static void run(java.util.List<Long> answers) {");
        program.addAll(statements);
        program.add("} }");
        Path source = folder.resolve("ReadmeRun.java");
        Files.write(source, program);
        int result = ToolProvider.getSystemJavaCompiler().run(null, null, null, "-d",
            folder.toString(), "-cp", System.getProperty("java.class.path"), source.toString());
        Check.due("the Java of README.md compiles", result, 0);
        List<Long> answers = new ArrayList<>();
        if (result == 0) {
            try (URLClassLoader loader = new URLClassLoader(new URL[] {folder.toUri().toURL()})) {
                loader.loadClass("ReadmeRun").getMethod("run", List.class).invoke(null, answers);
            }
        }
        return answers;
    }

    private static void remove(Path folder) throws IOException {
        try (Stream<Path> files = Files.list(folder)) {
            for (Path file : files.toList()) {
                Files.delete(file);
            }
        }
        Files.delete(folder);
    }

    private void everyCallIsShown() {
        for (Method method : PouredTopmost.class.getDeclaredMethods()) {
            if (Modifier.isPublic(method.getModifiers())) {
                Check.isTrue("shows " + method.getName(), shown.contains(method.getName()));
            }
        }
    }

    private static void constantsAreAsTold(List<String> lines) {
        Set<String> named = new TreeSet<>();
        for (String line : lines) {
            Matcher row = CONSTANT_ROW.matcher(line);
            if (row.matches()) {
                named.add(row.group(1));
                Check.due(line, constant(row.group(1)), Long.parseLong(row.group(2)));
            }
        }
        for (Field field : PouredTopmost.class.getFields()) {
            Check.isTrue("the table tells " + field.getName(), named.contains(field.getName()));
        }
    }

    private static void testsAreAsTold(List<String> lines) throws IOException {
        Set<String> named = new TreeSet<>();
        for (String line : lines) {
            Matcher row = TEST_ROW.matcher(line);
            if (row.matches()) {
                named.add(row.group(1));
            }
        }
        Set<String> there = new TreeSet<>();
        try (Stream<Path> files = Files.list(TESTS)) {
            files.map(file -> file.getFileName().toString())
                .filter(name -> name.endsWith("Test.java"))
                .forEach(name -> there.add(name.replace(".java", "")));
        }
        Check.isTrue("the table tells " + named + ", there are " + there, named.equals(there));
    }
}
