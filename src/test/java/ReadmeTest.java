import java.io.IOException;
import java.nio.file.Files;
import java.nio.file.Path;
import java.util.regex.Matcher;
import java.util.regex.Pattern;

/** The example of README.md answers what README.md says; runs from the project's folder, as .ci/run does. */
public final class ReadmeTest {
    private static final Pattern CALL = Pattern.compile("cluster\\.(\\w+\\(.*?\\));\\s*//(?:\\s*->\\s*(-?\\d+))?.*");
    private static final Pattern LONG = Pattern.compile("(0x[0-9a-fA-F]+)L");

    public static void main(String[] args) throws IOException {
        StringBuilder example = new StringBuilder();
        int answers = 0;
        for (String line : Files.readAllLines(Path.of("README.md"))) {
            if (!line.startsWith("cluster.")) {
                continue;
            }
            Matcher parts = CALL.matcher(line);
            if (!parts.matches()) {
                throw new IllegalStateException("no call with a remark: " + line);
            }
            example.append(LONG.matcher(parts.group(1)).replaceAll("$1"));
            if (parts.group(2) != null) {
                example.append(" -> ").append(parts.group(2));
                answers++;
            }
            example.append('\n');
        }
        if (answers == 0) {
            throw new IllegalStateException("README.md has no example");
        }
        Script script = new Script();
        script.play("the example of README.md", example.toString());
        script.end();
    }
}
