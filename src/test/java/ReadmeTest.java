import java.io.File;
import java.io.IOException;
import java.lang.reflect.Method;
import java.lang.reflect.Modifier;
import java.nio.file.Files;
import java.nio.file.Path;
import java.util.ArrayList;
import java.util.Comparator;
import java.util.List;
import java.util.Map;
import java.util.TreeSet;
import java.util.regex.Matcher;
import java.util.regex.Pattern;
import java.util.stream.Stream;

/** What README.md says is true of the class and of its tests. */
public final class ReadmeTest {
    private static final Path TESTS = Path.of("src", "test", "java");
    private static final Path SOURCE = Path.of("src", "main", "java", "CausalBroadcast.java");
    private static final Map<String, String> SHORT = Map.of("I", "IndexOutOfBoundsException",
            "S", "IllegalStateException", "A", "IllegalArgumentException", "N", "NoSuchElementException");

    private final String text;
    private final Path room;

    private ReadmeTest(String text, Path room) {
        this.text = text;
        this.room = room;
    }

    public static void main(String[] args) throws IOException, InterruptedException {
        Path room = Files.createTempDirectory("readme");
        try {
            ReadmeTest test = new ReadmeTest(Files.readString(Path.of("README.md")), room);
            test.commands();
            test.calls();
            test.events();
            test.errorPositions();
            test.tests();
            test.namedFiles();
        } finally {
            empty(room);
        }
        Check.end();
    }

    private static void empty(Path room) throws IOException {
        try (Stream<Path> paths = Files.walk(room)) {
            paths.sorted(Comparator.reverseOrder()).map(Path::toFile).forEach(File::delete);
        }
    }

    private List<String> find(String pattern) {
        List<String> found = new ArrayList<>();
        Matcher matcher = Pattern.compile(pattern, Pattern.MULTILINE | Pattern.DOTALL).matcher(text);
        while (matcher.find()) {
            found.add(matcher.group(1));
        }
        return found;
    }

    /** Runs what stands in the sh blocks, but for .ci/run, which runs this test. */
    private void commands() throws IOException, InterruptedException {
        Files.writeString(room.resolve("Example.java"), find("^```java\n(.*?)^```").get(0));
        String due = find("^```text\n(.*?)^```").get(0);
        int examples = 0;
        for (String block : find("^```sh\n(.*?)^```")) {
            String output = "";
            if (!block.contains(".ci/run") && hasItsFiles(block)) {
                output = shell(block);
            }
            if (block.contains("Example")) {
                examples++;
                Check.same("the example", due, output);
            }
        }
        Check.same("the blocks that run the example", 1, examples);
    }

    /** The tests under ../shared/tests are not the project's own and may be others one day. */
    private static boolean hasItsFiles(String block) {
        Matcher matcher = Pattern.compile("\\.\\./shared/tests/\\w+\\.java").matcher(block);
        return !matcher.find() || Files.exists(Path.of(matcher.group()));
    }

    private String shell(String block) throws IOException, InterruptedException {
        String moved = block.replace("/tmp/", room + "/").replace(" Example.java", " " + room + "/Example.java");
        Process process = new ProcessBuilder("sh", "-ec", moved).redirectErrorStream(true).start();
        String output = new String(process.getInputStream().readAllBytes());
        Check.same("the end of " + block + output, 0, process.waitFor());
        return output;
    }

    private void calls() throws IOException {
        TreeSet<String> due = new TreeSet<>();
        String source = Files.readString(SOURCE);
        for (Method method : CausalBroadcast.class.getDeclaredMethods()) {
            if (Modifier.isPublic(method.getModifiers())) {
                due.add(method.getName() + parametersOf(source, method.getName()) + exceptionsOf(method));
            }
        }
        TreeSet<String> found = new TreeSet<>();
        for (String row : find("^\\| (`\\w+\\([^`]*\\)` \\|[^\n]*) \\|$")) {
            String[] columns = row.split(" \\| ?");
            found.add(columns[0].replace("`", "") + exceptionsIn(columns.length > 2 ? columns[2] : ""));
        }
        Check.same("the tables of calls", String.join("\n", due), String.join("\n", found));
    }

    private static String parametersOf(String source, String name) {
        Matcher matcher = Pattern.compile("public \\w+ " + name + "\\(([^)]*)\\)").matcher(source);
        return matcher.find() ? "(" + matcher.group(1).replaceAll("(int|char) ", "") + ")" : "";
    }

    private static List<String> exceptionsOf(Method method) {
        return Stream.of(method.getExceptionTypes()).map(Class::getSimpleName).toList();
    }

    private static List<String> exceptionsIn(String column) {
        List<String> names = new ArrayList<>();
        for (String part : column.split("; ")) {
            String name = part.split(":")[0].strip();
            if (!name.isEmpty()) {
                names.add(SHORT.getOrDefault(name, name));
            }
        }
        return names;
    }

    /** Each event of the table does what the call beside it does. */
    private void events() {
        List<String> rows = find("^\\| (`[a-z][^`(]*` \\| `\\w+\\([^`]*\\)`)");
        Check.same("the number of events in the table", 6, rows.size());
        for (String row : rows) {
            String[] columns = row.replace("`", "").split(" \\| ");
            CausalBroadcast byScript = withMessages();
            Scene.write(byScript, columns[0]);
            Check.due("run() of " + columns[0], 1, () -> byScript.run());
            CausalBroadcast byCall = withMessages();
            Object answer = Picture.ask(byCall, columns[1].replaceFirst("\\(.*", ""), argumentsIn(columns[1]));
            Check.same(columns[1] + " answers a number", true, answer instanceof Integer);
            Check.same("the group after " + columns[0], Picture.of(byCall), Picture.of(byScript));
        }
    }

    private static CausalBroadcast withMessages() {
        CausalBroadcast x = new CausalBroadcast();
        for (int i = 0; i < 40; i++) {
            x.broadcast(0, i);
        }
        return x;
    }

    private static Object[] argumentsIn(String call) {
        return Pattern.compile("-?[0-9]+").matcher(call).results().map(r -> (Object) Integer.valueOf(r.group()))
                .toArray();
    }

    private void errorPositions() {
        List<String> examples = new ArrayList<>(find("([0-9]+ for `[^`]*`)"));
        Check.same("the number of error positions", 2, examples.size());
        Check.same("an empty input is named", true, text.contains(", 0 for an empty input"));
        examples.add("0 for ``");
        for (String example : examples) {
            CausalBroadcast x = new CausalBroadcast();
            Scene.write(x, example.substring(example.indexOf('`') + 1, example.length() - 1));
            Check.due("run()", "IllegalArgumentException", () -> x.run());
            Check.due("errorPosition()", Integer.parseInt(example.split(" ")[0]), () -> x.errorPosition());
        }
    }

    private void tests() throws IOException {
        TreeSet<String> due = new TreeSet<>();
        try (Stream<Path> files = Files.list(TESTS)) {
            files.map(file -> file.getFileName().toString()).filter(name -> name.endsWith("Test.java"))
                    .forEach(name -> due.add(name.replace(".java", "")));
        }
        Check.same("the table of tests", due, new TreeSet<>(find("^\\| `(\\w+Test)` \\|")));
    }

    /** Every helper is named, and what is named is there. */
    private void namedFiles() throws IOException {
        String section = text.substring(text.indexOf("## Tests\n"));
        try (Stream<Path> files = Files.list(TESTS)) {
            files.map(file -> file.getFileName().toString().replace(".java", ""))
                    .forEach(name -> Check.same(name + " is named", true, section.contains("`" + name + "`")));
        }
        for (String name : find("`([A-Z][a-z]+(?:Test|Edges))`")) {
            Check.same(name + " is there", true, Files.exists(TESTS.resolve(name + ".java")));
        }
    }
}
