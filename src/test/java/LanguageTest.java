import java.io.IOException;
import java.lang.reflect.Constructor;
import java.lang.reflect.Field;
import java.lang.reflect.Method;
import java.lang.reflect.Modifier;
import java.nio.file.Files;
import java.nio.file.Path;
import java.util.Arrays;
import java.util.List;
import java.util.TreeSet;
import java.util.regex.Matcher;
import java.util.regex.Pattern;

/** The face of the class, and rules of LANGUAGE.md that can be seen in its text. Runs from the project's root. */
public final class LanguageTest {
    private static final Check CHECK = new Check("LanguageTest");
    private static final List<String> FACE = List.of(
        "int status()", "long top()", "long bottom()", "boolean tray(int, int, int)", "boolean write(int, int, long)",
        "long read(int, int)", "boolean pour(int, int, int, int, int)", "boolean parties(int)", "int poll(int, int)",
        "boolean draw(int, int, int)", "int told(int, int)", "int chance(int)", "int sheet(int, int, int)",
        "int good(int)", "boolean habit(int, int, boolean)", "int slip(int, int)", "int known(int, int)",
        "int layer(int, int, int)", "int sum(int, int, int)", "int doubt(int, int, int)", "int margin(int, int, int)",
        "int worst(int, int, boolean)", "int ahead(int, int, int)", "boolean official(int, int)",
        "int off(int, int, int)", "int offs(int, int, int)", "int lean(int, int)");
    private static final String[] RULED_OUT = {"\\bthrow\\b", "\\btry\\b", "\\bcatch\\b", "\\bsynchronized\\b", "\\bassert\\b",
        "->", "::", "\\bimport\\b", "\\bpackage\\b", "\\bThread\\b", "\\bRandom\\b", "Exact\\b", "\\bObject\\b",
        "\\bprotected\\b", "\\bnew [A-Z]\\w*\\([^)]*\\) *\\{", "\\bstatic \\{"};

    private static final String LIBRARY = "(Math|Integer|Long)\\.\\w+\\(|System\\.arraycopy\\(|Arrays\\.(copyOf|copyOfRange|fill)\\(";

    public static void main(String[] args) throws IOException {
        face();
        members();
        words();
        lengths();
        CHECK.end();
    }

    private static void face() {
        TreeSet<String> found = new TreeSet<>();
        for (Method m : QuickCount.class.getDeclaredMethods()) {
            if (Modifier.isPublic(m.getModifiers())) {
                String types = Arrays.toString(m.getParameterTypes());
                found.add(m.getReturnType() + " " + m.getName() + "(" + types.substring(1, types.length() - 1) + ")");
            } else {
                CHECK.due(m + " is private", Modifier.isPrivate(m.getModifiers()), true);
                own(m);
            }
        }
        CHECK.due("the methods are the document's", found.equals(new TreeSet<>(FACE)), true);
        CHECK.due("public and final", QuickCount.class.getModifiers(), Modifier.PUBLIC | Modifier.FINAL);
    }

    /** A method that is not of the face. */
    private static void own(Method m) {
        CHECK.due(m + " bears no name of the face", FACE.stream().anyMatch(f -> f.contains(" " + m.getName() + "(")), false);
        CHECK.due(m + " has at most seven parameters", m.getParameterCount() <= 7, true);
    }

    private static void members() {
        for (Constructor<?> c : QuickCount.class.getDeclaredConstructors()) {
            CHECK.due("the constructor", c.getParameterCount() == 0 && Modifier.isPublic(c.getModifiers()), true);
        }
        for (Field f : QuickCount.class.getDeclaredFields()) {
            boolean isNone = f.getName().equals("NONE");
            CHECK.due(f + " is private", Modifier.isPrivate(f.getModifiers()), !isNone);
            CHECK.due(f + " is final if static", !Modifier.isStatic(f.getModifiers()) || Modifier.isFinal(f.getModifiers()), true);
        }
        int fields = 0;
        for (Class<?> inside : QuickCount.class.getDeclaredClasses()) {
            CHECK.due(inside + " is static", Modifier.isStatic(inside.getModifiers()), true);
            fields = Math.max(fields, inside.getDeclaredFields().length);
            for (Method m : inside.getDeclaredMethods()) {
                own(m);
            }
        }
        CHECK.due("fields of a class", fields <= 20, true);
        CHECK.due("classes", QuickCount.class.getDeclaredClasses().length <= 11, true);
    }

    private static void words() throws IOException {
        String text = Files.readString(Path.of("src/main/java/QuickCount.java"));
        String code = text.replaceAll("(?s)/\\*.*?\\*/", "").replaceAll("//[^\n]*", "");
        for (String word : RULED_OUT) {
            CHECK.due("code with " + word, Pattern.compile(word).matcher(code).find(), false);
        }
        Matcher library = Pattern.compile("\\b[A-Z]\\w*[a-z]\\w*\\.\\w+\\(").matcher(code);
        while (library.find()) {
            CHECK.due(library.group() + " is of the library that may be used", library.group().matches(LIBRARY), true);
        }
        CHECK.due("ASCII", text.chars().allMatch(c -> c < 128), true);
    }

    /** Methods stay short: their ends are seen by how far they stand in. */
    private static void lengths() throws IOException {
        List<String> lines = Files.readAllLines(Path.of("src/main/java/QuickCount.java"));
        int start = 0;
        for (int i = 0; i < lines.size(); i++) {
            String line = lines.get(i);
            if (line.matches(" +(public|private) .*\\) \\{")) {
                start = i;
            } else if (line.matches(" {4}( {4})?\\}")) {
                CHECK.due("line " + (start + 1) + " begins a short method", i - start < 60, true);
                start = i;
            }
        }
    }
}
