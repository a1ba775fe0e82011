import java.io.IOException;
import java.io.PrintWriter;
import java.io.StringWriter;
import java.lang.reflect.Method;
import java.lang.reflect.Modifier;
import java.net.URL;
import java.net.URLClassLoader;
import java.nio.file.Files;
import java.nio.file.Path;
import java.util.List;
import java.util.Set;
import java.util.TreeSet;
import java.util.spi.ToolProvider;
import java.util.stream.Collectors;
import java.util.stream.Stream;

/** The calls that README.md shows compile and answer as it says. Runs from the project's root. */
public final class ReadmeTest {
    private static final Check CHECK = new Check("ReadmeTest");
    private static final int MOST_CALLS = 512;

    public static void main(String[] args) throws IOException, ReflectiveOperationException {
        Readme readme = Readme.read();
        forms(readme);
        answers(readme);
        faceIsShown(readme);
        testsAreNamed(readme);
        seesFaults();
        CHECK.end();
    }

    private static void forms(Readme readme) {
        for (String line : readme.strange) {
            CHECK.due("a call and its answer in " + line, false, true);
        }
        CHECK.due("calls of one object", readme.shown.size() <= MOST_CALLS, true);
    }

    private static void answers(Readme readme) throws IOException, ReflectiveOperationException {
        StringWriter faults = new StringWriter();
        List<String> answers = answersOf(readme, faults);
        CHECK.due("calls of README.md that compile " + faults, answers.size(), readme.shown.size());
        for (int i = 0; i < Math.min(answers.size(), readme.shown.size()); i++) {
            Readme.Shown shown = readme.shown.get(i);
            boolean isSo = answers.get(i).equals(shown.answer());
            String says = "README.md line " + shown.line() + ", " + shown.call() + ", says " + shown.answer();
            CHECK.due(says + ", is " + answers.get(i), isSo, true);
        }
    }

    private static void faceIsShown(Readme readme) {
        Set<String> names = readme.shown.stream().map(Readme.Shown::name).collect(Collectors.toCollection(TreeSet::new));
        for (Method method : QuickCount.class.getDeclaredMethods()) {
            if (Modifier.isPublic(method.getModifiers())) {
                CHECK.due("README.md shows " + method.getName(), names.contains(method.getName()), true);
            }
        }
    }

    /** README.md names each test that .ci/run runs, and no other. */
    private static void testsAreNamed(Readme readme) throws IOException {
        Set<String> named = readme.text.lines().filter(l -> l.matches("\\| \\w+Test \\|.*"))
            .map(l -> l.split(" ")[1]).collect(Collectors.toCollection(TreeSet::new));
        try (Stream<Path> files = Files.list(Path.of("src/test/java"))) {
            Set<String> there = files.map(f -> f.getFileName().toString()).filter(f -> f.endsWith("Test.java"))
                .map(f -> f.replace(".java", "")).collect(Collectors.toCollection(TreeSet::new));
            CHECK.due("README.md names " + named + ", there are " + there, named.equals(there), true);
        }
        CHECK.due(".ci/run can be run", Files.isExecutable(Path.of(".ci/run")), true);
    }

    /** Pages with a fault are seen, so that a page without one says something. */
    private static void seesFaults() throws IOException, ReflectiveOperationException {
        Readme wrong = page("x.poll(0, 5);  // 7: it is poll 0");
        CHECK.due("what is said", wrong.shown.get(0).answer().equals("7"), true);
        CHECK.due("what is so", answersOf(wrong, new StringWriter()).equals(List.of("0")), true);
        CHECK.due("no such call", answersOf(page("x.polls(0, 5);  // 0"), new StringWriter()).size(), 0);
        CHECK.due("a call without an answer", page("x.poll(0, 5);").strange.size(), 1);
        CHECK.due("two calls in a line", page("x.top(); x.top();  // 0").strange.size(), 1);
        CHECK.due("words for an answer", page("x.top();  // nothing").strange.size(), 1);
    }

    private static Readme page(String line) {
        return new Readme("```java\nQuickCount x = new QuickCount();\n" + line + "\n```\n");
    }

    /** What the calls answer; nothing, with what the compiler says in faults, if they do not compile. */
    private static List<String> answersOf(Readme readme, StringWriter faults) throws IOException, ReflectiveOperationException {
        Path place = Files.createTempDirectory("readme");
        try {
            Path source = Files.writeString(place.resolve("Shown.java"), readme.program("Shown"));
            return compiles(source, faults) ? answersIn(place) : List.of();
        } finally {
            remove(place);
        }
    }

    private static boolean compiles(Path source, StringWriter faults) {
        ToolProvider javac = ToolProvider.findFirst("javac").orElseThrow();
        PrintWriter said = new PrintWriter(faults);
        String out = source.getParent().toString();
        return javac.run(said, said, "-cp", System.getProperty("java.class.path"), "-d", out, source.toString()) == 0;
    }

    private static List<String> answersIn(Path place) throws IOException, ReflectiveOperationException {
        try (URLClassLoader loader = new URLClassLoader(new URL[] {place.toUri().toURL()})) {
            List<?> answers = (List<?>) loader.loadClass("Shown").getMethod("answers").invoke(null);
            return answers.stream().map(String::valueOf).toList();
        }
    }

    private static void remove(Path place) throws IOException {
        try (Stream<Path> files = Files.list(place)) {
            for (Path file : files.toList()) {
                Files.delete(file);
            }
        }
        Files.delete(place);
    }
}
