import java.io.IOException;
import java.lang.reflect.Method;
import java.lang.reflect.Modifier;
import java.net.URL;
import java.net.URLClassLoader;
import java.nio.file.Files;
import java.nio.file.Path;
import java.util.Comparator;
import java.util.List;
import java.util.Set;
import java.util.TreeSet;
import java.util.regex.Matcher;
import java.util.regex.Pattern;
import java.util.stream.Collectors;
import java.util.stream.Stream;
import javax.tools.JavaCompiler;
import javax.tools.ToolProvider;

/** README.md against the class and the tests as they stand: what it tells has to be so. */
public final class ReadmeTest {
    private static final Path README = Path.of("README.md");
    private static final Path TESTS = Path.of("src", "test", "java");
    /** A call whose answer is told in the comment behind it, alone or as a variable's first value. */
    private static final Pattern TOLD =
            Pattern.compile("(\\s*)((?:int|long|boolean) (\\w+) = )?(\\S.*\\));\\s+// (-?\\d+|true|false)(:.*)?");
    private static final Pattern NAME_IN_TABLE = Pattern.compile("\\| (\\w+) \\| .*");
    private static final Pattern CALL_IN_TABLE = Pattern.compile("\\| `(\\w+)\\((.*)\\)` \\| .*");

    /** Not the example's own name: a class that a reader has made of it may lie on the path, too. */
    private static final String ASKING = "AskingExample";

    private static final Checks CHECKS = new Checks("ReadmeTest");
    private static int told = 0;
    private static int asked = 0;

    public static void main(String[] args) throws Exception {
        List<String> lines = Files.readAllLines(README);
        theExampleAnswersAsTold(block(lines, "```java"));
        everyCallIsTold(lines);
        everyTestIsNamed(lines);
        CHECKS.end();
    }

    /** Called by the example, once it has been made to ask what it tells. */
    public static void due(String call, Object got, String want) {
        asked++;
        CHECKS.due("the example: " + call, String.valueOf(got), want);
    }

    private static List<String> block(List<String> lines, String opening) {
        int from = lines.indexOf(opening) + 1;
        return lines.stream().skip(from).takeWhile(line -> !line.equals("```")).collect(Collectors.toList());
    }

    private static void theExampleAnswersAsTold(List<String> lines) throws Exception {
        Path folder = Files.createTempDirectory("readme");
        try {
            Path file = folder.resolve(ASKING + ".java");
            Files.write(file, lines.stream().map(ReadmeTest::asking).collect(Collectors.toList()));
            JavaCompiler compiler = ToolProvider.getSystemJavaCompiler();
            String path = System.getProperty("java.class.path");
            int code = compiler.run(null, null, null, "-cp", path, "-d", folder.toString(), file.toString());
            CHECKS.due("the example compiles, javac", code, 0);
            if (code == 0) {
                run(folder);
            }
            CHECKS.due("how many answers of the example were asked", asked, told);
        } finally {
            remove(folder);
        }
    }

    private static void run(Path folder) throws Exception {
        try (URLClassLoader loader = new URLClassLoader(new URL[] {folder.toUri().toURL()})) {
            Method main = loader.loadClass(ASKING).getMethod("main", String[].class);
            main.invoke(null, (Object) new String[0]);
        }
    }

    /** The line of the example, made to ask what its comment tells. */
    private static String asking(String line) {
        Matcher call = TOLD.matcher(line);
        if (!call.matches()) {
            // A call of main without an answer would be one that nobody looks at.
            boolean silent = line.startsWith("        bars.") || line.startsWith("        tell(");
            CHECKS.due("no answer is told in: " + line, silent, false);
            return line.replace("class Example", "class " + ASKING);
        }
        told++;
        String words = call.group(4);
        String quoted = '"' + words.replace("\"", "'") + '"';
        String want = '"' + call.group(5) + '"';
        if (call.group(2) == null) {
            return "ReadmeTest.due(" + quoted + ", " + words + ", " + want + ");";
        }
        return call.group(2) + words + "; ReadmeTest.due(" + quoted + ", " + call.group(3) + ", " + want + ");";
    }

    private static void remove(Path folder) throws IOException {
        try (Stream<Path> all = Files.walk(folder)) {
            for (Path path : all.sorted(Comparator.reverseOrder()).collect(Collectors.toList())) {
                Files.delete(path);
            }
        }
    }

    private static void everyCallIsTold(List<String> lines) {
        Set<String> rows = new TreeSet<>();
        for (String line : lines) {
            Matcher call = CALL_IN_TABLE.matcher(line);
            if (call.matches()) {
                int parameters = call.group(2).isEmpty() ? 0 : call.group(2).split(",").length;
                rows.add(call.group(1) + " of " + parameters);
            }
        }
        Set<String> there = new TreeSet<>();
        for (Method method : MaterialBars.class.getDeclaredMethods()) {
            if (Modifier.isPublic(method.getModifiers())) {
                there.add(method.getName() + " of " + method.getParameterCount());
            }
        }
        CHECKS.due("the table of the calls", rows.toString(), there.toString());
    }

    private static void everyTestIsNamed(List<String> lines) throws IOException {
        String section = String.join("\n", lines.subList(lines.indexOf("## How to run its tests"), lines.size()));
        Set<String> there = new TreeSet<>();
        try (Stream<Path> files = Files.list(TESTS)) {
            files.forEach(file -> there.add(file.getFileName().toString().replace(".java", "")));
        }
        for (String name : there) {
            CHECKS.due("names " + name, Pattern.compile("\\b" + name + "\\b").matcher(section).find(), true);
        }
        for (String line : section.split("\n")) {
            Matcher row = NAME_IN_TABLE.matcher(line);
            if (row.matches() && !row.group(1).equals("test") && !row.group(1).equals("file")) {
                CHECKS.due("has " + row.group(1), there.contains(row.group(1)), true);
            }
        }
    }
}
