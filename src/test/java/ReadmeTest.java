import java.io.IOException;
import java.nio.file.Files;
import java.nio.file.Path;
import java.util.regex.Matcher;
import java.util.regex.Pattern;

/** The calls that README.md shows, "quay.press(0, 0); // 950: ..", answer what it says. */
public final class ReadmeTest {
    private static final Pattern SHOWN = Pattern.compile("quay\\.(\\w+)\\(([^)]*)\\);\\s*// (-?\\d+)(:.*)?");

    public static void main(String[] args) throws IOException {
        Run run = new Run("README.md");
        String text = Files.readString(Path.of("README.md"));
        for (String line : text.split("\n")) {
            Matcher shown = SHOWN.matcher(line);
            if (shown.matches()) {
                run.rows((shown.group(1) + " " + shown.group(2).replace(",", "")).trim() + " = " + shown.group(3));
            } else if (line.startsWith("quay.")) {
                Check.report("not a call with an answer: " + line);
            }
        }
        Check.due("README.md shows calls", run.calls() > 0, true);
        Check.due("README.md tells of the 512 calls", text.contains("at most 512 calls"), true);
        Check.end();
    }
}
