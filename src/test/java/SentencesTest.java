import java.io.IOException;
import java.lang.reflect.InvocationTargetException;
import java.lang.reflect.Method;
import java.nio.file.Files;
import java.nio.file.Path;
import java.util.Arrays;
import java.util.Comparator;
import java.util.List;
import java.util.stream.Collectors;
import java.util.stream.Stream;

/**
 * Runs the tests of all classes Promise.. and Term.., each of which says for which sentence of the document it is,
 * and looks that each sentence has one.
 */
public final class SentencesTest {
    /** By headings, what asks for nothing that could be tested, or what FaceTest looks at. */
    private static final String[][] PLAIN = {
        {"What it is", "A reader of circuits."},
        {"The public face", "```java public final class FoundryNine {", "} ```"},
        {"Terms",
            "Its calls: inputs, gates with their delays and registers with their clocks are told, line by line;"
                + " what does not go together is told; then it runs: inputs are set, time passes, changes come one by"
                + " one, those that are too short are swallowed; and one asks what each wire is, when it changed,"
                + " which hazards there were, how long the longest way is, and what would be.",
            "1 LINES.", "```text GATES:", "``` 2 FLAWS", "```text", "``` 3 RUNNING.", "``` 4 HAZARDS",
            "Ahead of the calls `flaws`, `ofFlaw`, `arrival`, `longest`, `way`, `users` the interface says: ---- flaws,"
                + " and ways.",
            "Ahead of the calls `start`, `set`, `pass`, `settle`, `isRunning`, `told`, `ofWire`, `pending`, `hazards`,"
                + " `ofHazard` the interface says: ---- running.",
            "Ahead of the calls `wouldBe`, `hazardsWith`, `settlesIn`, `longestWith`, `meanArrival`, `digest` the"
                + " interface says:"},
        {"Not promised",
            "How the state is held inside the object is free, as are the speed of each call, the text of toString and"
                + " the behaviour of equals and hashCode. Use of one object from several threads at once is not"
                + " promised to be safe. Nothing is promised beyond the answers and state changes described above, and"
                + " nothing about an object after its 512th call."},
    };

    private static final Due due = new Due();

    public static void main(String[] args) throws Exception {
        Path file = Path.of("../shared/DOC.md");
        Document document = Files.exists(file) ? new Document(file) : null;
        int tests = 0;
        for (Class<?> c : classesOfTests()) {
            Method[] methods = c.getDeclaredMethods();
            Arrays.sort(methods, Comparator.comparing(Method::getName));
            for (Method method : methods) {
                if (method.isAnnotationPresent(Says.class)) {
                    run(c, method);
                    lookUp(document, c.getAnnotation(Section.class).value(), method.getAnnotation(Says.class).value());
                    tests++;
                } else {
                    due.begin(c.getName());
                    due.isTrue(method.getName() + " is for no sentence", !isTest(method));
                }
            }
        }
        due.begin("the document");
        if (document == null) {
            System.out.println(file + " is not there: the sentences are not looked up");
        } else {
            lookForOthers(document);
        }
        System.out.println(tests + " tests of sentences");
        due.end();
    }

    private static List<Class<?>> classesOfTests() throws IOException {
        try (Stream<Path> files = Files.list(Path.of("src/test/java"))) {
            return files.map(file -> file.getFileName().toString())
                    .filter(name -> name.matches("(Promise|Term).*\\.java"))
                    .sorted()
                    .map(name -> classOf(name.replace(".java", "")))
                    .collect(Collectors.toList());
        }
    }

    private static Class<?> classOf(String name) {
        try {
            return Class.forName(name);
        } catch (ClassNotFoundException e) {
            throw new IllegalStateException(name, e);
        }
    }

    private static void run(Class<?> c, Method method) throws IllegalAccessException {
        due.begin(c.getName() + "." + method.getName() + " (" + method.getAnnotation(Says.class).value()[0] + ")");
        int asked = due.asked();
        try {
            method.invoke(null, due);
        } catch (InvocationTargetException e) {
            due.isTrue("threw " + e.getCause(), false);
        }
        due.isTrue("looks at nothing", due.asked() > asked);
    }

    private static boolean isTest(Method method) {
        return !method.isSynthetic() && Arrays.equals(method.getParameterTypes(), new Class<?>[] {Due.class});
    }

    private static void lookUp(Document document, String heading, String[] sentences) {
        for (String sentence : sentences) {
            due.isTrue("does not stand under " + heading + ": " + sentence,
                    document == null || document.quote(heading, sentence));
        }
    }

    private static void lookForOthers(Document document) {
        lookUp(document, "The public face", FaceTest.FACE);
        for (String[] plain : PLAIN) {
            lookUp(document, plain[0], Arrays.copyOfRange(plain, 1, plain.length));
        }
        for (String left : document.left()) {
            due.isTrue("has no test: " + left, false);
        }
    }
}
