import java.io.IOException;
import java.nio.file.Files;
import java.nio.file.Path;
import java.util.ArrayList;
import java.util.List;
import java.util.regex.Matcher;
import java.util.regex.Pattern;

/** README.md's example: each call there is made, and must be answered as the comment behind it begins. */
public final class ReadmeTest {
    private static final Pattern NEW_ROW = Pattern.compile("LayeredTree tree = new LayeredTree\\((\\d+)\\);.*");
    private static final Pattern CALL_ROW = Pattern.compile("tree\\.(\\w+)\\((.*?)\\); +// (?:LayeredTree\\.)?(-?\\w+).*");

    public static void main(String[] args) throws IOException {
        List<String> rows = new ArrayList<>();
        for (String line : Files.readAllLines(Path.of("README.md"))) {
            Matcher made = NEW_ROW.matcher(line);
            Matcher call = CALL_ROW.matcher(line);
            if (made.matches()) {
                rows.add("new " + made.group(1));
            } else if (call.matches()) {
                rows.add((call.group(1) + " " + call.group(2).replace(",", "")).trim() + " = " + number(call.group(3)));
            }
        }
        Runs.due("the example has calls", rows.size() > 10 ? 1 : 0, 1);
        Runs.run("README.md", rows.toArray(String[]::new));
        Runs.end();
    }

    private static String number(String answer) {
        return switch (answer) {
            case "true" -> "1";
            case "false" -> "0";
            default -> answer;
        };
    }
}
