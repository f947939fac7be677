import java.io.IOException;
import java.nio.file.Files;
import java.nio.file.Path;
import java.util.regex.Matcher;
import java.util.regex.Pattern;

/**
 * Makes a test of README.md's examples: a class ReadmeRun whose main method asks for each call
 * that an example tells, and compares it with the answer in the comment behind that call.
 */
public final class ReadmeExamples {
    private static final String BEGINS = "```java";
    private static final String ENDS = "```";
    private static final String NEW_BOARD = "PageBoard board = new PageBoard();";
    private static final String WITHOUT_ANSWER = "board.reset();";
    private static final Pattern ASKED = Pattern.compile("(board\\..*\\));\\s+// ([^:]+)(: .*)?");
    private static final Pattern THROWN = Pattern.compile("throws (\\w+)");

    private final StringBuilder made = new StringBuilder();
    private int examples;
    private boolean inExample;

    /** Takes the file to read and the file to write. */
    public static void main(String[] args) throws IOException {
        ReadmeExamples all = new ReadmeExamples();
        all.made.append("public final class ReadmeRun {\n")
            .append("  private static final Due DUE = new Due();\n")
            .append("  private static long number(boolean b) { return b ? 1 : 0; }\n")
            .append("  private static long number(long v) { return v; }\n");
        for (String line : Files.readAllLines(Path.of(args[0]))) {
            all.take(line);
        }
        all.end();
        Files.writeString(Path.of(args[1]), all.made);
    }

    private void take(String line) {
        if (!inExample && line.equals(BEGINS)) {
            inExample = true;
            examples++;
            made.append("  private static void example").append(examples).append("() {\n");
        } else if (inExample && line.equals(ENDS)) {
            inExample = false;
            made.append("  }\n");
        } else if (inExample) {
            made.append("    ").append(asCode(line)).append('\n');
        }
    }

    /** A call without an answer is refused: nothing in an example goes unlooked at. */
    private static String asCode(String line) {
        if (line.equals(NEW_BOARD) || line.equals(WITHOUT_ANSWER)) {
            return line;
        }
        Matcher asked = ASKED.matcher(line);
        if (!asked.matches()) {
            throw new IllegalStateException("no call with its answer: " + line);
        }
        String call = asked.group(1);
        String want = asked.group(2).strip();
        String name = "\"README: " + call.replace("\"", "'") + "\"";
        Matcher thrown = THROWN.matcher(want);
        if (thrown.matches()) {
            return "DUE.throwsA(" + thrown.group(1) + ".class, " + name + ", () -> " + call + ");";
        }
        return "DUE.is(" + name + ", number(" + want + "), number(" + call + "));";
    }

    private void end() {
        if (inExample || examples == 0) {
            throw new IllegalStateException("README.md has no example, or one without an end");
        }
        made.append("  public static void main(String[] args) {\n");
        for (int i = 1; i <= examples; i++) {
            made.append("    example").append(i).append("();\n");
        }
        made.append("    DUE.end();\n  }\n}\n");
    }
}
