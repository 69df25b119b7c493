import java.nio.charset.StandardCharsets;
import java.nio.file.Files;
import java.nio.file.Path;
import java.util.ArrayList;
import java.util.List;
import java.util.Set;
import java.util.TreeSet;
import java.util.regex.Matcher;
import java.util.regex.Pattern;

/** The example of README.md answers as it says there; run from the project's folder. */
public final class ReadmeTest {
    private static final Due due = new Due();
    private static final Pattern EXAMPLE = Pattern.compile("(?s)```java\n(.*?)```");
    private static final Pattern TEXT = Pattern.compile("for \\(char c : \"([^\"]*)\"\\.toCharArray\\(\\)\\) \\{");
    private static final Pattern CALL = Pattern.compile("x\\.([a-z]+)\\(([^)]*)\\); +// (-?\\w+): .*");
    private static final Set<String> AROUND = Set.of("HookTies x = new HookTies();", "    x.write(c);", "}", "");
    private static final Set<String> IN_THE_LOOP = Set.of("write");

    public static void main(String[] args) throws Exception {
        due.about("README.md");
        Matcher example = EXAMPLE.matcher(Files.readString(Path.of("README.md"), StandardCharsets.UTF_8));
        due.holds("has an example", example.find());
        Run.of(due, "", calls(example.group(1)));
        due.holds("has one alone", !example.find());
        due.end();
    }

    private static String[] calls(String example) {
        List<String> calls = new ArrayList<>();
        Set<String> shown = new TreeSet<>(IN_THE_LOOP);
        for (String line : example.split("\n")) {
            Matcher text = TEXT.matcher(line);
            Matcher call = CALL.matcher(line);
            if (text.matches()) {
                calls.add("'" + text.group(1) + "'");
            } else if (call.matches()) {
                shown.add(call.group(1));
                calls.add(call.group(1) + "(" + call.group(2).replace("HookTies.", "") + ")=" + call.group(3));
            } else {
                due.holds("line can be tested: " + line, AROUND.contains(line) || line.startsWith("// "));
            }
        }
        due.is("calls of the face that are shown, of 34 " + shown, shown.size(), 34);
        return calls.toArray(new String[0]);
    }
}
