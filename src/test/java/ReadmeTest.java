import java.io.IOException;
import java.lang.reflect.Method;
import java.lang.reflect.Modifier;
import java.net.URL;
import java.net.URLClassLoader;
import java.nio.file.Files;
import java.nio.file.Path;
import java.util.ArrayList;
import java.util.List;
import java.util.Map;
import java.util.Set;
import java.util.TreeSet;
import java.util.function.Consumer;
import java.util.regex.Matcher;
import java.util.regex.Pattern;
import java.util.stream.Collectors;
import java.util.stream.Stream;
import javax.tools.ToolProvider;

/** What README.md shows of the class is compiled and run, and what it says of the tests is looked up. */
public final class ReadmeTest {
    private static final Check CHECK = new Check("ReadmeTest");
    private static final Path PAGE = Path.of("README.md");
    private static final Path TESTS = Path.of("src/test/java");
    private static final Path SCRIPT = Path.of(".ci/run");
    private static final String PROGRAM = "ReadmeProgram";
    private static final int CALLS_OF_AN_OBJECT = 512;
    private static final Pattern SHOWN = Pattern.compile("(codes\\.(\\w+)\\(.*\\));\\s+// (-?\\d+|[A-Z]+): .+");
    private static final Pattern TABLE_ROW = Pattern.compile("\\| (\\w+Test) \\| .+ \\|");
    private static final Map<String, Integer> NAMED = Map.of(
            "NONE", RollingCodes.NONE, "UNKNOWN", RollingCodes.UNKNOWN, "OUTSIDE", RollingCodes.OUTSIDE,
            "NOT", RollingCodes.NOT, "FULL", RollingCodes.FULL);

    private final List<String> calls = new ArrayList<>();
    private final List<Integer> answers = new ArrayList<>();
    private final Set<String> names = new TreeSet<>();
    private final StringBuilder program = new StringBuilder();

    public static void main(String[] args) throws Exception {
        ReadmeTest test = new ReadmeTest();
        test.read();
        test.hold(runProgram(test.source()));
        test.allCallsAreShown();
        theTableHasAllTests();
        theScriptIsThere();
        CHECK.end();
    }

    /** Takes the java blocks out of the page; a call with its answer is made to tell what it answers. */
    private void read() throws IOException {
        boolean isJava = false;
        for (String line : Files.readAllLines(PAGE)) {
            if (line.startsWith("```")) {
                isJava = line.equals("```java");
            } else if (isJava) {
                program.append(asProgram(line)).append('\n');
            }
        }
    }

    private String asProgram(String line) {
        Matcher shown = SHOWN.matcher(line);
        boolean isShown = shown.matches();
        CHECK.isSo("the page tells the answer of: " + line, isShown || !line.startsWith("codes."));
        if (!isShown) {
            return line;
        }
        String answer = shown.group(3);
        boolean isName = Character.isLetter(answer.charAt(0));
        CHECK.isSo("the page tells an answer by its name: " + line, !isName || NAMED.containsKey(answer));
        calls.add(shown.group(1));
        names.add(shown.group(2));
        answers.add(isName ? NAMED.getOrDefault(answer, 0) : Integer.parseInt(answer));
        return "answers.add(" + shown.group(1) + ");";
    }

    /** The program has a loader of its own, so it meets this test by a class of the library alone. */
    private String source() {
        return "public final class " + PROGRAM + " implements java.util.function.Consumer<java.util.List<Integer>> {\n"
                + "public void accept(java.util.List<Integer> answers) {\n" + program + "}\n}\n";
    }

    private static List<Integer> runProgram(String source) throws Exception {
        Path folder = Files.createTempDirectory("readme");
        try {
            Path file = Files.writeString(folder.resolve(PROGRAM + ".java"), source);
            int failed = ToolProvider.getSystemJavaCompiler().run(null, System.out, System.out, "--release", "17",
                    "-cp", System.getProperty("java.class.path"), "-d", folder.toString(), file.toString());
            CHECK.due("compiling what the page shows", failed, 0);
            return failed == 0 ? answersOf(folder) : List.of();
        } finally {
            remove(folder);
        }
    }

    private static List<Integer> answersOf(Path folder) throws Exception {
        List<Integer> got = new ArrayList<>();
        try (URLClassLoader loader = new URLClassLoader(new URL[] {folder.toUri().toURL()}, ReadmeTest.class.getClassLoader())) {
            @SuppressWarnings("unchecked")
            Consumer<List<Integer>> shown =
                    (Consumer<List<Integer>>) loader.loadClass(PROGRAM).getDeclaredConstructor().newInstance();
            shown.accept(got);
        }
        return got;
    }

    private static void remove(Path folder) throws IOException {
        try (Stream<Path> files = Files.list(folder)) {
            for (Path file : files.collect(Collectors.toList())) {
                Files.delete(file);
            }
        }
        Files.delete(folder);
    }

    private void hold(List<Integer> got) {
        CHECK.due("answers that the page's program gives", got.size(), calls.size());
        for (int i = 0; i < got.size() && i < calls.size(); i++) {
            CHECK.due("README.md: " + calls.get(i), got.get(i), answers.get(i));
        }
    }

    private void allCallsAreShown() {
        Set<String> face = new TreeSet<>();
        for (Method call : RollingCodes.class.getDeclaredMethods()) {
            if (Modifier.isPublic(call.getModifiers())) {
                face.add(call.getName());
            }
        }
        CHECK.isSo("the page shows each call of the face, " + face + ": " + names, face.equals(names));
        int letters = program.indexOf("\";") - program.indexOf("\"") - 1;
        CHECK.isSo("the page's object is within its calls", letters + calls.size() <= CALLS_OF_AN_OBJECT);
    }

    private static void theTableHasAllTests() throws IOException {
        Set<String> told = new TreeSet<>();
        for (String line : Files.readAllLines(PAGE)) {
            Matcher row = TABLE_ROW.matcher(line);
            if (row.matches()) {
                told.add(row.group(1));
            }
        }
        Set<String> there = new TreeSet<>();
        try (Stream<Path> files = Files.list(TESTS)) {
            files.map(file -> file.getFileName().toString()).filter(name -> name.endsWith("Test.java"))
                    .forEach(name -> there.add(name.substring(0, name.length() - ".java".length())));
        }
        CHECK.isSo("the page's table has all tests, " + there + ": " + told, there.equals(told));
    }

    private static void theScriptIsThere() throws IOException {
        CHECK.isSo("the page tells how the tests are run", Files.readString(PAGE).contains("`bash " + SCRIPT + "`"));
        CHECK.isSo(SCRIPT + " can be run", Files.isExecutable(SCRIPT));
    }
}
