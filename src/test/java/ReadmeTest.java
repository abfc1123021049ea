import java.io.IOException;
import java.lang.reflect.Method;
import java.nio.file.Files;
import java.nio.file.Path;
import java.util.regex.Matcher;
import java.util.regex.Pattern;

/** The calls of README.md, in their order, each with the answer that stands behind it. */
public final class ReadmeTest {
    private static final Pattern CALL = Pattern.compile("wall\\.(\\w+)\\(([-\\d, ]*)\\);\\s+// (-?\\d+): .*");
    private static final Pattern FEED =
        Pattern.compile("for \\(char letter : \"([^\"]*)\"\\.toCharArray\\(\\)\\) wall\\.feed\\(letter\\);");
    private static final int LEAST_CALLS = 20;

    public static void main(String[] args) throws IOException, ReflectiveOperationException {
        MightHaveBeenPutUp wall = new MightHaveBeenPutUp();
        int calls = 0;
        for (String line : Files.readAllLines(Path.of("README.md"))) {
            Matcher call = CALL.matcher(line);
            Matcher feed = FEED.matcher(line);
            if (call.matches()) {
                Check.due(line, ask(wall, call.group(1), call.group(2)), Long.parseLong(call.group(3)));
                calls++;
            } else if (feed.matches()) {
                Check.feed(wall, feed.group(1));
            } else if (line.startsWith("wall.")) {
                Check.fault("not a call with its answer: " + line);
            }
        }
        Check.due("calls of README.md", calls >= LEAST_CALLS ? 1 : 0, 1);
        Check.end("ReadmeTest");
    }

    private static long ask(MightHaveBeenPutUp wall, String name, String numbers) throws ReflectiveOperationException {
        String[] each = numbers.isEmpty() ? new String[0] : numbers.split(", ");
        Object[] values = new Object[each.length];
        Class<?>[] types = new Class<?>[each.length];
        for (int i = 0; i < each.length; i++) {
            values[i] = Integer.parseInt(each[i]);
            types[i] = int.class;
        }
        Method call = MightHaveBeenPutUp.class.getMethod(name, types);
        return ((Number) call.invoke(wall, values)).longValue();
    }
}
