import java.io.IOException;
import java.lang.reflect.Constructor;
import java.lang.reflect.Executable;
import java.lang.reflect.Field;
import java.lang.reflect.Method;
import java.lang.reflect.Modifier;
import java.nio.file.Files;
import java.nio.file.Path;
import java.util.Arrays;
import java.util.Set;
import java.util.TreeSet;
import java.util.regex.Matcher;
import java.util.regex.Pattern;
import java.util.stream.Collectors;

/** The face of the class as the document tells it, and those rules of LANGUAGE.md that can be looked for simply. */
public final class FaceTest {
    private static final Due due = new Due();
    /** The document's own lines. */
    static final String[] FACE = {
        "public FoundryNine();",
        "public int input(int wire) throws IndexOutOfBoundsException, IllegalStateException;",
        "public int gate(int kind, int wire, int a, int b, int c, int delay)"
            + " throws IllegalArgumentException, IndexOutOfBoundsException, IllegalStateException;",
        "public int register(int wire, int data, int clock, int reset, int delay)"
            + " throws IndexOutOfBoundsException, IllegalArgumentException, IllegalStateException;",
        "public int setWindow(int line, int setup, int hold)"
            + " throws IndexOutOfBoundsException, IllegalArgumentException;",
        "public int setDelay(int line, int delay) throws IndexOutOfBoundsException, IllegalArgumentException;",
        "public int lines();",
        "public int flaws();",
        "public int ofFlaw(int flaw, int what) throws IndexOutOfBoundsException, IllegalArgumentException;",
        "public int arrival(int wire) throws IndexOutOfBoundsException;",
        "public int longest();",
        "public int way(int place);",
        "public int users(int wire) throws IndexOutOfBoundsException;",
        "public int start() throws IllegalStateException;",
        "public int set(int wire, int value)"
            + " throws IllegalStateException, IndexOutOfBoundsException, IllegalArgumentException;",
        "public int pass(int by) throws IllegalStateException, IllegalArgumentException;",
        "public int settle() throws IllegalStateException;",
        "public boolean isRunning();",
        "public int told(int what) throws IllegalArgumentException;",
        "public int ofWire(int wire, int what) throws IndexOutOfBoundsException, IllegalArgumentException;",
        "public int pending(int line) throws IndexOutOfBoundsException;",
        "public int hazards();",
        "public int ofHazard(int hazard, int what) throws IndexOutOfBoundsException, IllegalArgumentException;",
        "public int wouldBe(int wire, int value, int other)"
            + " throws IllegalStateException, IndexOutOfBoundsException, IllegalArgumentException;",
        "public int hazardsWith(int wire, int value)"
            + " throws IllegalStateException, IndexOutOfBoundsException, IllegalArgumentException;",
        "public int settlesIn() throws IllegalStateException;",
        "public int longestWith(int line, int delay) throws IndexOutOfBoundsException, IllegalArgumentException;",
        "public double meanArrival();",
        "public long digest();",
    };
    private static final String[] FORBIDDEN = {
        "->", "::", "\\btry\\b", "\\bcatch\\b", "\\bfinally\\b", "\\bsynchronized\\b", "\\bassert\\b", "\\bpackage\\b",
        "\\bvar\\b", "\\bfloat\\b", "Exact\\(", "\\bRandom\\b", "\\bThread\\b", "\\bSystem\\.(?!arraycopy)",
        "\\bhashCode\\b", "\\btoString\\b", "\\bprotected\\b", "[^\\x00-\\x7f]",
    };

    public static void main(String[] args) throws IOException {
        face();
        classesInside();
        text(Files.readString(Path.of(args.length > 0 ? args[0] : "src/main/java/FoundryNine.java")));
        due.end();
    }

    /** A line of the document without the names of its parameters. */
    private static String told(String line) {
        return line.replaceAll("int \\w+([,)])", "int$1");
    }

    private static String found(String head, Executable method) {
        return head + "(" + names(method.getParameterTypes()) + ")"
                + (method.getExceptionTypes().length == 0 ? "" : " throws " + names(method.getExceptionTypes())) + ";";
    }

    private static String names(Class<?>[] types) {
        return Arrays.stream(types).map(Class::getSimpleName).collect(Collectors.joining(", "));
    }

    private static void face() {
        Class<?> c = FoundryNine.class;
        due.isTrue("not public and final", Modifier.isPublic(c.getModifiers()) && Modifier.isFinal(c.getModifiers()));
        Set<String> found = new TreeSet<>();
        Set<String> names = new TreeSet<>();
        for (Method method : c.getDeclaredMethods()) {
            if (!Modifier.isPrivate(method.getModifiers())) {
                found.add(found("public " + method.getReturnType().getName() + " " + method.getName(), method));
                names.add(method.getName());
                due.isTrue("not public: " + method, Modifier.isPublic(method.getModifiers()));
            }
        }
        for (Constructor<?> constructor : c.getDeclaredConstructors()) {
            found.add(found("public FoundryNine", constructor));
            due.isTrue("not public: " + constructor, Modifier.isPublic(constructor.getModifiers()));
        }
        Set<String> told = Arrays.stream(FACE).map(FaceTest::told).collect(Collectors.toCollection(TreeSet::new));
        due.isTrue("the face is " + found, found.equals(told));
        for (Method method : c.getDeclaredMethods()) {
            if (Modifier.isPrivate(method.getModifiers())) {
                due.isTrue("a private name of the face: " + method, !names.contains(method.getName()));
            }
        }
        for (Field field : c.getDeclaredFields()) {
            due.isTrue("field " + field, Modifier.isPrivate(field.getModifiers()));
        }
        sizes(c);
    }

    private static void classesInside() {
        Class<?>[] inside = FoundryNine.class.getDeclaredClasses();
        due.isTrue("too many classes", inside.length <= 12);
        for (Class<?> c : inside) {
            due.isTrue("a public class inside: " + c, !Modifier.isPublic(c.getModifiers()));
            due.isTrue("not static: " + c, Modifier.isStatic(c.getModifiers()));
            sizes(c);
        }
    }

    private static void sizes(Class<?> c) {
        int fields = 0;
        for (Field field : c.getDeclaredFields()) {
            boolean isStatic = Modifier.isStatic(field.getModifiers());
            fields += isStatic ? 0 : 1;
            due.isTrue("static, but not final: " + field, !isStatic || Modifier.isFinal(field.getModifiers()));
        }
        due.isTrue("too many fields: " + c, fields <= 20);
        for (Executable method : c.getDeclaredMethods()) {
            due.isTrue("too many parameters: " + method, method.getParameterCount() <= 7);
        }
    }

    private static void text(String all) {
        String text = all.replaceAll("(?s)/\\*.*?\\*/", "").replaceAll("//[^\n]*", "").replaceAll("\"[^\"\n]*\"", "\"\"");
        for (String forbidden : FORBIDDEN) {
            Matcher found = Pattern.compile(forbidden).matcher(text);
            due.isTrue("not allowed: " + forbidden, !found.find());
        }
        Matcher imports = Pattern.compile("import\\s+([^;]+);").matcher(text);
        while (imports.find()) {
            due.is("import " + imports.group(1), imports.group(1).equals("java.util.Arrays"), true);
        }
        int begins = 0;
        String[] lines = all.split("\n");
        for (int i = 0; i < lines.length; i++) {
            due.isTrue("too long: line " + (i + 1), lines[i].length() <= 120);
            if (lines[i].matches(" {4}(?: {4})?[\\w].*\\).*\\{") && !lines[i].contains("class ")) {
                begins = i;
            }
            if (lines[i].matches(" {4}(?: {4})?\\}")) {
                due.isTrue("a long method at line " + (begins + 1), i - begins <= 60);
            }
        }
    }
}
