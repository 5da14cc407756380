import java.io.IOException;
import java.lang.reflect.Method;
import java.nio.file.Files;
import java.nio.file.Path;
import java.util.Arrays;
import java.util.Set;
import java.util.TreeSet;
import java.util.regex.Matcher;
import java.util.regex.Pattern;

/** Every test that src/test/BOUNDARIES.md names is there, so that the table stays true. */
public final class BoundariesTest {
    private static final Check CHECK = new Check("boundaries");
    private static final Path TABLE = Path.of("src", "test", "BOUNDARIES.md");
    private static final Pattern NAMED = Pattern.compile("`(\\w+Test)\\.(\\w+)`");

    public static void main(String[] args) throws IOException {
        for (String line : Files.readAllLines(TABLE)) {
            if (line.startsWith("| ") && !line.startsWith("| The document") && !line.startsWith("| -")) {
                namesTestsThatAreThere(line);
            }
        }
        CHECK.finish();
    }

    private static void namesTestsThatAreThere(String line) {
        Set<String> named = new TreeSet<>();
        Matcher matcher = NAMED.matcher(line);
        while (matcher.find()) {
            named.add(matcher.group());
            CHECK.due(matcher.group() + " is there", isThere(matcher.group(1), matcher.group(2)), true);
        }
        CHECK.due("a test is named in: " + line, named.isEmpty(), false);
    }

    private static boolean isThere(String type, String name) {
        try {
            Method[] methods = Class.forName(type).getDeclaredMethods();
            return Arrays.stream(methods).anyMatch(method -> method.getName().equals(name));
        } catch (ClassNotFoundException missing) {
            return false;
        }
    }
}
