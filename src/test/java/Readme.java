import java.io.IOException;
import java.nio.file.Files;
import java.nio.file.Path;
import java.util.ArrayList;
import java.util.List;
import java.util.regex.Matcher;
import java.util.regex.Pattern;

/** README.md, and the calls that its Java blocks show with their answers. */
final class Readme {
    /** A call as README.md shows it. */
    record Shown(int line, String name, String call, String answer) {
    }

    private static final Pattern MAKES = Pattern.compile("QuickCount x = new QuickCount\\(\\);");
    private static final Pattern CALLS = Pattern.compile("(x\\.(\\w+)\\([^;]*\\)); *// (true|false|-?\\d+)(: .+)?");

    final String text;
    final List<Shown> shown = new ArrayList<>();
    /** Lines of the blocks in no form that can be tested. */
    final List<String> strange = new ArrayList<>();
    private final StringBuilder body = new StringBuilder();

    Readme(String text) {
        this.text = text;
        boolean inside = false;
        int number = 0;
        for (String line : text.split("\n")) {
            number++;
            if (line.startsWith("```")) {
                inside = line.equals("```java");
            } else if (inside) {
                take(number, line);
            }
        }
    }

    static Readme read() throws IOException {
        return new Readme(Files.readString(Path.of("README.md")));
    }

    private void take(int number, String line) {
        Matcher call = CALLS.matcher(line);
        if (call.matches()) {
            shown.add(new Shown(number, call.group(2), call.group(1), call.group(3)));
            body.append("        answers.add(").append(call.group(1)).append(");\n");
        } else if (MAKES.matcher(line).matches()) {
            body.append("        ").append(line).append('\n');
        } else if (!line.isBlank()) {
            strange.add("line " + number + ": " + line);
        }
    }

    /** A class of which answers() makes the calls, in the order of shown. */
    String program(String name) {
        return "public final class " + name + " {\n"
            + "    public static java.util.List<Object> answers() {\n"
            + "        java.util.List<Object> answers = new java.util.ArrayList<>();\n"
            + body
            + "        return answers;\n"
            + "    }\n"
            + "}\n";
    }
}
