import java.nio.file.Files;
import java.nio.file.Path;
import java.util.regex.Matcher;
import java.util.regex.Pattern;

/** The calls that README.md shows answer what it says behind them. */
public final class ReadmeTest {
    private static final Pattern SHOWN = Pattern.compile("house\\.(\\w+\\([^)]*\\)); +// (-?\\d+)(: .*)?");
    private static final Pattern HEX = Pattern.compile("0x([0-9a-f]{8})");

    public static void main(String[] args) throws Exception {
        Run house = new Run("README.md");
        int shown = 0;
        for (String line : Files.readAllLines(Path.of("README.md"))) {
            if (!line.startsWith("house.")) continue;
            Matcher call = SHOWN.matcher(line);
            if (!call.matches()) throw new IllegalStateException("a call without its answer: " + line);
            house.is(HEX.matcher(call.group(1)).replaceAll(m -> "" + Integer.parseUnsignedInt(m.group(1), 16)), Long.parseLong(call.group(2)));
            shown++;
        }
        if (shown == 0) throw new IllegalStateException("README.md shows no call");
        Run.close();
    }
}
