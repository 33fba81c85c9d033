import java.io.IOException;
import java.lang.reflect.Constructor;
import java.lang.reflect.Executable;
import java.lang.reflect.Field;
import java.lang.reflect.Method;
import java.lang.reflect.Modifier;
import java.nio.file.Files;
import java.nio.file.Path;
import java.util.Arrays;
import java.util.Set;
import java.util.TreeSet;
import java.util.regex.Matcher;
import java.util.regex.Pattern;

/** The face of the class as the document tells it, and those rules of LANGUAGE.md that can be looked for simply. */
public final class FaceTest {
    private static final Due due = new Due();
    private static final String[] FACE = {
        "int input(int)", "int gate(int,int,int,int,int,int)", "int register(int,int,int,int,int)",
        "int setWindow(int,int,int)", "int setDelay(int,int)", "int lines()", "int flaws()", "int ofFlaw(int,int)",
        "int arrival(int)", "int longest()", "int way(int)", "int users(int)", "int start()", "int set(int,int)",
        "int pass(int)", "int settle()", "boolean isRunning()", "int told(int)", "int ofWire(int,int)",
        "int pending(int)", "int hazards()", "int ofHazard(int,int)", "int wouldBe(int,int,int)",
        "int hazardsWith(int,int)", "int settlesIn()", "int longestWith(int,int)", "double meanArrival()",
        "long digest()",
    };
    private static final String[] FORBIDDEN = {
        "->", "::", "\\btry\\b", "\\bcatch\\b", "\\bfinally\\b", "\\bsynchronized\\b", "\\bassert\\b", "\\bpackage\\b",
        "\\bvar\\b", "\\bfloat\\b", "Exact\\(", "\\bRandom\\b", "\\bThread\\b", "\\bSystem\\.(?!arraycopy)",
        "\\bhashCode\\b", "\\btoString\\b", "\\bprotected\\b", "[^\\x00-\\x7f]",
    };

    public static void main(String[] args) throws IOException {
        face();
        classesInside();
        text(Files.readString(Path.of(args.length > 0 ? args[0] : "src/main/java/FoundryNine.java")));
        due.end();
    }

    private static String signature(Method method) {
        StringBuilder text = new StringBuilder();
        for (Class<?> type : method.getParameterTypes()) {
            text.append(text.length() == 0 ? "" : ",").append(type.getName());
        }
        return method.getReturnType().getName() + " " + method.getName() + "(" + text + ")";
    }

    private static void face() {
        Class<?> c = FoundryNine.class;
        due.isTrue("not public and final", Modifier.isPublic(c.getModifiers()) && Modifier.isFinal(c.getModifiers()));
        Set<String> found = new TreeSet<>();
        Set<String> names = new TreeSet<>();
        for (Method method : c.getDeclaredMethods()) {
            if (!Modifier.isPrivate(method.getModifiers())) {
                found.add(signature(method));
                names.add(method.getName());
                due.isTrue("not public: " + method, Modifier.isPublic(method.getModifiers()));
            }
        }
        due.isTrue("the face is " + found, found.equals(new TreeSet<>(Arrays.asList(FACE))));
        for (Method method : c.getDeclaredMethods()) {
            if (Modifier.isPrivate(method.getModifiers())) {
                due.isTrue("a private name of the face: " + method, !names.contains(method.getName()));
            }
        }
        for (Constructor<?> constructor : c.getDeclaredConstructors()) {
            due.isTrue("constructor", Modifier.isPublic(constructor.getModifiers())
                    && constructor.getParameterCount() == 0);
        }
        for (Field field : c.getDeclaredFields()) {
            due.isTrue("field " + field, Modifier.isPrivate(field.getModifiers()));
        }
        sizes(c);
    }

    private static void classesInside() {
        Class<?>[] inside = FoundryNine.class.getDeclaredClasses();
        due.isTrue("too many classes", inside.length <= 12);
        for (Class<?> c : inside) {
            due.isTrue("a public class inside: " + c, !Modifier.isPublic(c.getModifiers()));
            due.isTrue("not static: " + c, Modifier.isStatic(c.getModifiers()));
            sizes(c);
        }
    }

    private static void sizes(Class<?> c) {
        int fields = 0;
        for (Field field : c.getDeclaredFields()) {
            boolean isStatic = Modifier.isStatic(field.getModifiers());
            fields += isStatic ? 0 : 1;
            due.isTrue("static, but not final: " + field, !isStatic || Modifier.isFinal(field.getModifiers()));
        }
        due.isTrue("too many fields: " + c, fields <= 20);
        for (Executable method : c.getDeclaredMethods()) {
            due.isTrue("too many parameters: " + method, method.getParameterCount() <= 7);
        }
    }

    private static void text(String all) {
        String text = all.replaceAll("(?s)/\\*.*?\\*/", "").replaceAll("//[^\n]*", "").replaceAll("\"[^\"\n]*\"", "\"\"");
        for (String forbidden : FORBIDDEN) {
            Matcher found = Pattern.compile(forbidden).matcher(text);
            due.isTrue("not allowed: " + forbidden, !found.find());
        }
        Matcher imports = Pattern.compile("import\\s+([^;]+);").matcher(text);
        while (imports.find()) {
            due.is("import " + imports.group(1), imports.group(1).equals("java.util.Arrays"), true);
        }
        int begins = 0;
        String[] lines = all.split("\n");
        for (int i = 0; i < lines.length; i++) {
            due.isTrue("too long: line " + (i + 1), lines[i].length() <= 120);
            if (lines[i].matches(" {4}(?: {4})?[\\w].*\\).*\\{") && !lines[i].contains("class ")) {
                begins = i;
            }
            if (lines[i].matches(" {4}(?: {4})?\\}")) {
                due.isTrue("a long method at line " + (begins + 1), i - begins <= 60);
            }
        }
    }
}
