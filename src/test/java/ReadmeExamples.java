import java.io.IOException;
import java.nio.charset.StandardCharsets;
import java.nio.file.Files;
import java.nio.file.Path;
import java.util.ArrayList;
import java.util.List;
import java.util.regex.Matcher;
import java.util.regex.Pattern;

/**
 * Turns the Java examples of README.md into a test: each call is made, and its answer held against the one in the
 * comment behind it. Arguments: README.md, and the file ReadmeAnswers.java to be written.
 */
public final class ReadmeExamples {
    private static final Pattern MADE = Pattern.compile("ChainPeers node = new ChainPeers\\([^;]*\\);(\\s*//.*)?");
    private static final Pattern SILENT = Pattern.compile("node\\.clear\\(\\);");
    private static final Pattern ANSWERED =
        Pattern.compile("(node\\.\\w+\\([^;]*\\));\\s*// (true|false|NONE|ODD|BROKEN|-?\\d+): .*");

    private final List<String> test = new ArrayList<>();
    private int examples;
    private int answers;

    public static void main(String[] args) throws IOException {
        ReadmeExamples reader = new ReadmeExamples();
        reader.read(Files.readAllLines(Path.of(args[0]), StandardCharsets.UTF_8));
        if (reader.examples == 0 || reader.answers == 0) {
            throw new IllegalStateException("there is no example in " + args[0]);
        }
        Files.write(Path.of(args[1]), reader.wholeTest(), StandardCharsets.UTF_8);
    }

    private void read(List<String> lines) {
        boolean inExample = false;
        for (String line : lines) {
            if (line.equals("```java")) {
                inExample = true;
                examples++;
                test.add("{");
            } else if (inExample && line.equals("```")) {
                inExample = false;
                test.add("}");
            } else if (inExample) {
                test.add(checked(line));
            }
        }
    }

    /** A line that shows no answer where there is one would go untested, so it is refused. */
    private String checked(String line) {
        Matcher answered = ANSWERED.matcher(line);
        if (answered.matches()) {
            answers++;
            String call = answered.group(1);
            String answer = answered.group(2);
            String due = answer.matches("[A-Z]+") ? "ChainPeers." + answer : answer;
            return "due.is(\"README.md, example " + examples + ": " + call + "\", " + call + ", " + due + ");";
        }
        if (MADE.matcher(line).matches() || SILENT.matcher(line).matches()) {
            return line;
        }
        throw new IllegalStateException("README.md shows a call without its answer: " + line);
    }

    private List<String> wholeTest() {
        List<String> whole = new ArrayList<>();
        whole.add("public final class ReadmeAnswers {");
        whole.add("public static void main(String[] args) {");
        whole.add("Due due = new Due();");
        whole.addAll(test);
        whole.add("due.end();");
        whole.add("}");
        whole.add("}");
        return whole;
    }
}
