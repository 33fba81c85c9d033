import java.io.IOException;
import java.lang.reflect.InvocationTargetException;
import java.lang.reflect.Method;
import java.nio.file.Files;
import java.nio.file.Path;
import java.util.Arrays;
import java.util.Comparator;
import java.util.List;
import java.util.Set;
import java.util.TreeSet;
import java.util.regex.Matcher;
import java.util.regex.Pattern;
import java.util.stream.Collectors;
import java.util.stream.Stream;

/** Does what README.md shows, and looks that it answers what stands there. */
public final class ReadmeTest {
    private static final Path PROGRAM = Path.of("src/main/java/FoundryNine.java");
    private static final String MADE = "FoundryNine x = new FoundryNine();";
    private static final Pattern CALL = Pattern.compile(
            "x\\.(\\w+)\\(((?:-?\\d+(?:, -?\\d+)*)?)\\); +// (throws \\w+|true|false|-?\\d+(?:\\.\\d+)?)(?:: .+)?");
    private static final Pattern ROW = Pattern.compile("`(\\w+\\([\\w, ]*\\))`");
    private static final String[] KINDS = {"NOT", "SAME", "AND", "OR", "DIFFER", "NOT AND", "NOT OR", "CHOOSE"};

    private static final Due due = new Due();
    private static final Set<String> shown = new TreeSet<>();

    public static void main(String[] args) throws Exception {
        Readme readme = new Readme(Path.of(args.length > 0 ? args[0] : "README.md"));
        firstProgram(readme);
        examples(readme);
        callsInTables(readme);
        gatesInTables(readme);
        due.end();
    }

    // ---- the first program

    /** The commands are those that README.md shows, in a directory with nothing else in it. */
    private static void firstProgram(Readme readme) throws IOException, InterruptedException {
        due.begin("the first program");
        Path directory = Files.createTempDirectory("readme");
        try {
            Files.createDirectories(directory.resolve(PROGRAM).getParent());
            Files.copy(PROGRAM, directory.resolve(PROGRAM));
            Files.writeString(directory.resolve("Example.java"), readme.firstOf("java").text());
            Process process = new ProcessBuilder("sh", "-ec", readme.firstOf("sh").text())
                    .directory(directory.toFile()).redirectError(ProcessBuilder.Redirect.INHERIT).start();
            String printed = new String(process.getInputStream().readAllBytes());
            due.is("exit code", process.waitFor(), 0);
            due.isTrue("printed\n" + printed, printed.equals(readme.firstOf("text").text()));
        } finally {
            remove(directory);
        }
    }

    private static void remove(Path directory) throws IOException {
        try (Stream<Path> files = Files.walk(directory)) {
            for (Path file : files.sorted(Comparator.reverseOrder()).collect(Collectors.toList())) {
                Files.delete(file);
            }
        }
    }

    // ---- the examples, each line of which shows what it answers

    private static void examples(Readme readme) throws IllegalAccessException {
        Readme.Block first = readme.firstOf("java");
        for (Readme.Block block : readme.blocks) {
            if (block.language.equals("java") && block != first) {
                example(block.lines);
            }
        }
        due.begin("the examples");
        due.isTrue("show " + shown + " alone", shown.equals(namesOfCalls()));
    }

    private static Set<String> namesOfCalls() {
        return Arrays.stream(FaceTest.FACE).map(line -> line.replaceAll("\\(.*", "").replaceAll(".* ", ""))
                .filter(name -> !name.equals("FoundryNine")).collect(Collectors.toCollection(TreeSet::new));
    }

    private static void example(List<String> lines) throws IllegalAccessException {
        due.begin("an example");
        due.isTrue("begins with " + lines.get(0), lines.get(0).equals(MADE));
        FoundryNine x = new FoundryNine();
        for (String line : lines.subList(1, lines.size())) {
            Matcher call = CALL.matcher(line);
            if (call.matches()) {
                String answer = answer(x, call.group(1), numbers(call.group(2)));
                due.isTrue(line + " -- but it answers " + answer, answer.equals(call.group(3)));
                shown.add(call.group(1));
            } else {
                due.isTrue("no call with its answer: " + line, false);
            }
        }
    }

    private static Object[] numbers(String text) {
        return text.isEmpty() ? new Object[0] : Arrays.stream(text.split(", ")).map(Integer::valueOf).toArray();
    }

    private static String answer(FoundryNine x, String name, Object[] numbers) throws IllegalAccessException {
        for (Method method : FoundryNine.class.getMethods()) {
            if (method.getName().equals(name) && method.getParameterCount() == numbers.length) {
                try {
                    return String.valueOf(method.invoke(x, numbers));
                } catch (InvocationTargetException e) {
                    return "throws " + e.getCause().getClass().getSimpleName();
                }
            }
        }
        return "nothing: there is no such call";
    }

    // ---- the tables

    /** Each call stands in a table once, with its parameters, and with its exceptions in their order. */
    private static void callsInTables(Readme readme) {
        due.begin("the tables");
        List<String> told = readme.rows.stream().filter(row -> ROW.matcher(row[0]).matches())
                .map(row -> row[0].replace("`", "") + " " + row[row.length - 1]).collect(Collectors.toList());
        List<String> face = Arrays.stream(FaceTest.FACE).map(ReadmeTest::row).collect(Collectors.toList());
        due.isTrue("tell " + told + ", the document " + face, told.equals(face));
    }

    /** A line of the document's face as a row tells it. */
    private static String row(String line) {
        return line.replaceFirst("^public (?:\\w+ )?(?=\\w+\\()", "").replaceAll("int (?=\\w)", "")
                .replaceFirst("\\)(?: throws)? ?(.*);$", ") $1")
                .replace("IndexOutOfBoundsException", "Index")
                .replace("IllegalArgumentException", "Argument")
                .replace("IllegalStateException", "State");
    }

    private static void gatesInTables(Readme readme) {
        String[] head = {};
        int kinds = 0;
        for (String[] row : readme.rows) {
            if (row[0].equals("kind")) {
                head = row;
            } else if (row[0].matches("\\d")) {
                gate(head, row);
                kinds++;
            }
        }
        due.is("gates in a table", kinds, 5);
    }

    private static void gate(String[] head, String[] row) {
        int kind = Integer.parseInt(row[0]);
        due.is("kind " + kind + " as " + row[1], KINDS[kind].equals(row[1]), true);
        for (int at = 2; at < row.length; at++) {
            int a = head[at].charAt(0) - '0';
            int b = head[at].charAt(3) - '0';
            int want = Integer.parseInt(row[at]);
            due.is(row[1] + " of " + a + ", " + b, ofGate(kind, a, b), want);
            due.is(row[1] + " of " + b + ", " + a, ofGate(kind, b, a), want);
        }
    }

    private static int ofGate(int kind, int a, int b) {
        FoundryNine x = new FoundryNine();
        drive(x, 0, a);
        drive(x, 1, b);
        x.gate(kind, 2, 0, 1, 0, 0);
        x.start();
        turnOn(x, 0, a);
        turnOn(x, 1, b);
        x.settle();
        return x.ofWire(2, 0);
    }

    /** A wire that drives itself is never known. */
    private static void drive(FoundryNine x, int wire, int value) {
        if (value == 2) {
            x.gate(1, wire, wire, 0, 0, 0);
        } else {
            x.input(wire);
        }
    }

    private static void turnOn(FoundryNine x, int wire, int value) {
        if (value == 1) {
            x.set(wire, 1);
        }
    }
}
