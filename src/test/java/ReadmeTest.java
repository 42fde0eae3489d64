import java.lang.reflect.Method;
import java.nio.file.Files;
import java.nio.file.Path;
import java.util.regex.Matcher;
import java.util.regex.Pattern;

/** README.md's example: each call that it shows is made, and answers the number shown behind it. */
public final class ReadmeTest {
    private static final Pattern TEXT = Pattern.compile("\"([^\"]*)\"");
    private static final Pattern CALL = Pattern.compile("(?m)^desk\\.(\\w+)\\(([^)]*)\\);\\s*// (-?\\d+)");
    private static final Check CHECK = new Check();

    public static void main(String[] args) throws Exception {
        String readme = Files.readString(Path.of("README.md"));
        int start = readme.indexOf("```java");
        String example = readme.substring(start, readme.indexOf("```", start + 3));
        LinkageCurves desk = new LinkageCurves();
        int length = 0;
        for (Matcher m = TEXT.matcher(example); m.find();) {
            for (char c : m.group(1).toCharArray()) {
                length++;
                CHECK.due("feed", desk.feed(1, c), length);
            }
        }
        int calls = 0;
        for (Matcher m = CALL.matcher(example); m.find();) {
            calls++;
            CHECK.due(m.group(), answer(desk, m.group(1), m.group(2)), Long.parseLong(m.group(3)));
        }
        CHECK.holds("the example shows calls", calls > 10 && length > 10);
        CHECK.end();
    }

    private static long answer(LinkageCurves desk, String name, String arguments) throws Exception {
        String[] told = arguments.isEmpty() ? new String[0] : arguments.split(", *");
        for (Method m : LinkageCurves.class.getMethods()) {
            if (m.getName().equals(name) && m.getParameterCount() == told.length) {
                Object[] numbers = new Object[told.length];
                for (int i = 0; i < told.length; i++) {
                    numbers[i] = Integer.valueOf(told[i]);
                }
                return ((Number) m.invoke(desk, numbers)).longValue();
            }
        }
        throw new IllegalStateException("README.md calls " + name + " with " + told.length + " numbers");
    }
}
