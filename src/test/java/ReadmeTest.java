import java.io.IOException;
import java.nio.file.Files;
import java.nio.file.Path;
import java.util.regex.Matcher;
import java.util.regex.Pattern;

/** The README's examples answer what their remarks say. */
public final class ReadmeTest {
    private static final Pattern EXAMPLE = Pattern.compile("```java\n(.*?)```", Pattern.DOTALL);
    private static final Pattern MADE = Pattern.compile("ScaffoldPlanner planner = new ScaffoldPlanner\\(\\);.*");
    private static final Pattern FED = Pattern.compile(
        "for \\(char letter : \"(.*)\"\\.toCharArray\\(\\)\\) planner\\.feed\\(letter\\);");
    private static final Pattern CALL = Pattern.compile("planner\\.(\\w+\\(.*?\\)); +// (! \\w+|-?\\d+)(:.*)?");

    public static void main(String[] args) throws IOException {
        Matcher example = EXAMPLE.matcher(Files.readString(Path.of("README.md")));
        int examples = 0;
        while (example.find()) {
            examples++;
            Script.run("README.md, example " + examples, linesOf(example.group(1)));
        }
        Script.due("README.md has examples", examples > 0, true);
        Script.finish();
    }

    /** The example as Script tells it. */
    private static String linesOf(String example) {
        StringBuilder lines = new StringBuilder();
        for (String line : example.split("\n")) {
            Matcher fed = FED.matcher(line);
            Matcher call = CALL.matcher(line);
            if (fed.matches()) {
                lines.append("type ").append(fed.group(1)).append('\n');
            } else if (call.matches()) {
                String answer = call.group(2);
                lines.append(call.group(1)).append(answer.startsWith("!") ? " " : " = ").append(answer).append('\n');
            } else if (!MADE.matcher(line).matches()) {
                Script.due("README.md: " + line, "a line that cannot be read", "a line");
            }
        }
        return lines.toString();
    }
}
