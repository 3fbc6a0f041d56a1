import java.io.IOException;
import java.nio.file.Files;
import java.nio.file.Path;
import java.util.ArrayList;
import java.util.List;
import java.util.regex.Matcher;
import java.util.regex.Pattern;

/** Makes a test of the example in README.md: its lines as they stand there, with a check of every answer they state. */
public final class ReadmeExample {
    private static final Pattern STATED = Pattern.compile("(\\S.*);\\s+// (?:throws )?(\\S.*)");
    private static final Pattern NAMED = Pattern.compile("\\w+ (\\w+) = .+");

    private final List<String> lines = new ArrayList<>();
    private int stated = 0;

    private ReadmeExample() {
    }

    public static void main(String[] args) throws IOException {
        ReadmeExample example = new ReadmeExample();
        example.read(Files.readAllLines(Path.of(args[0])));
        Files.write(Path.of(args[1]), example.program());
    }

    private void read(List<String> page) {
        boolean inside = false;
        for (String line : page) {
            if (line.startsWith("```")) {
                inside = line.equals("```java");
            } else if (inside) {
                add(line);
            }
        }
        if (stated == 0) {
            throw new IllegalStateException("the page states no answers");
        }
    }

    private void add(String line) {
        Matcher parts = STATED.matcher(line);
        if (parts.matches()) {
            stated++;
            addCheck(parts.group(1), parts.group(2));
            return;
        }
        // Inside a loop, where the line is indented, a call has more than one answer.
        if (line.contains("board.") && !line.startsWith(" ")) {
            throw new IllegalStateException("the page states no answer of " + line);
        }
        lines.add(line);
    }

    private void addCheck(String code, String answer) {
        Matcher named = NAMED.matcher(code);
        String call = code;
        if (named.matches()) {
            lines.add(code + ";");
            call = named.group(1);
        }
        lines.add("Check.due(" + quote(code) + ", " + quote(bare(answer)) + ", () -> " + call + ");");
    }

    /** Answers are compared as texts, in which a character and a text stand without their quotes. */
    private static String bare(String answer) {
        boolean quoted = answer.length() > 1 && "'\"".indexOf(answer.charAt(0)) >= 0
                && answer.charAt(0) == answer.charAt(answer.length() - 1);
        return quoted ? answer.substring(1, answer.length() - 1) : answer;
    }

    private static String quote(String text) {
        return '"' + text.replace("\\", "\\\\").replace("\"", "\\\"") + '"';
    }

    private List<String> program() {
        List<String> program = new ArrayList<>();
        program.add("public final class ReadmeTest {");
        program.add("public static void main(String[] args) {");
        program.addAll(lines);
        program.add("Check.finish(\"ReadmeTest\");");
        program.add("}");
        program.add("}");
        return program;
    }
}
