import java.io.IOException;
import java.nio.file.Files;
import java.nio.file.Path;
import java.util.regex.Matcher;
import java.util.regex.Pattern;

/** The calls that README.md shows, one behind the other on one object, answer what stands behind them there. */
final class ReadmeTest {
    private static final Pattern CALL = Pattern.compile("x\\.(\\w+)\\((.*)\\);\\s+// ([^:]+)(:.*)?");

    public static void main(String[] args) throws IOException {
        TwinArray x = new TwinArray();
        int calls = 0;
        for (String line : Files.readAllLines(Path.of("README.md"))) {
            Matcher call = CALL.matcher(line);
            if (call.matches()) {
                String got = Run.answer(x, call.group(1), numbers(call.group(2)));
                Check.same(line, got, call.group(3));
                calls++;
            }
        }
        Check.yes("README.md shows calls, at most 512", calls > 30 && calls <= Run.MOST_CALLS);
        Check.end();
    }

    private static Object[] numbers(String text) {
        return Pattern.compile("[0-9]+").matcher(text).results().map(n -> Integer.valueOf(n.group())).toArray();
    }
}
