import java.io.IOException;
import java.nio.file.Files;
import java.nio.file.Path;
import java.util.Arrays;
import java.util.Set;
import java.util.TreeSet;
import java.util.regex.Matcher;
import java.util.regex.Pattern;

/** The run of calls in README.md answers what stands behind each call, and leaves out no call. */
public final class ReadmeTest {
    private static final Checks CHECKS = new Checks();
    private static final Pattern SHOWN = Pattern.compile("x\\.(\\w+)\\(([^)]*)\\); *// (-?\\d+)(:.*)?");

    public static void main(String[] args) throws IOException {
        SpaceWords x = new SpaceWords();
        Model m = new Model();
        Set<String> shown = new TreeSet<>();
        for (String line : Files.readAllLines(Path.of("README.md"))) {
            if (line.startsWith("x.")) {
                Matcher parts = SHOWN.matcher(line);
                CHECKS.holds("a call and its answer: " + line, parts.matches());
                if (parts.matches()) {
                    Call call = new Call(parts.group(1), numbers(parts.group(2)));
                    int due = Integer.parseInt(parts.group(3));
                    CHECKS.due("README.md: " + call.text(), call.on(x), due);
                    CHECKS.due("README.md, the model: " + call.text(), call.on(m), due);
                    shown.add(parts.group(1));
                }
            }
        }
        CHECKS.due("calls of the face in README.md", shown.size(), 24);
        CHECKS.done("ReadmeTest");
    }

    private static int[] numbers(String list) {
        return Arrays.stream(list.split(", "))
                .filter(number -> !number.isEmpty())
                .mapToInt(ReadmeTest::number)
                .toArray();
    }

    private static int number(String text) {
        return switch (text) {
            case "true" -> 1;
            case "false" -> 0;
            default -> Integer.parseInt(text);
        };
    }
}
