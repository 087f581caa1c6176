import java.io.File;
import java.io.IOException;
import java.lang.reflect.Method;
import java.lang.reflect.Modifier;
import java.nio.file.Files;
import java.nio.file.Path;
import java.util.regex.Matcher;
import java.util.regex.Pattern;

/** README's example answers what README says, and README names every call and every test. */
public final class ReadmeTest {
    private static final Dues T = new Dues();
    private static final Pattern CALL = Pattern.compile("x\\.(\\w+)\\(([-0-9, ]*)\\); +// (-?\\d+)\\b.*");
    private static final Pattern FEED = Pattern.compile("feed\\(x, \"([^\"]*)\"\\); +// (-?\\d+)\\b.*");

    public static void main(String[] args) throws IOException, ReflectiveOperationException {
        String readme = Files.readString(Path.of("README.md"));
        example(readme);
        calls(readme);
        tests(readme);
        T.end();
    }

    private static void example(String readme) throws ReflectiveOperationException {
        HundredBoxes x = new HundredBoxes();
        int asked = 0;
        for (String line : readme.split("\n")) {
            Matcher call = CALL.matcher(line);
            Matcher feed = FEED.matcher(line);
            if (call.matches()) {
                T.due(line, ask(x, call.group(1), call.group(2)), Long.parseLong(call.group(3)));
                asked++;
            } else if (feed.matches()) {
                T.due(line, Dues.feed(x, feed.group(1)), Long.parseLong(feed.group(2)));
                asked++;
            } else {
                // a call in another form would go untested
                boolean untested = line.startsWith("x.") || line.startsWith("feed(");
                T.due("a line of README that is no call with its answer: " + line, untested ? 1 : 0, 0);
            }
        }
        T.due("README has an example", asked > 20 ? 1 : 0, 1);
    }

    private static long ask(HundredBoxes x, String name, String numbers) throws ReflectiveOperationException {
        String[] told = numbers.isBlank() ? new String[0] : numbers.split(", ");
        Object[] values = new Object[told.length];
        for (int i = 0; i < told.length; i++) {
            values[i] = Integer.parseInt(told[i]);
        }
        for (Method method : HundredBoxes.class.getDeclaredMethods()) {
            if (Modifier.isPublic(method.getModifiers()) && method.getName().equals(name)) {
                return ((Number) method.invoke(x, values)).longValue();
            }
        }
        throw new NoSuchMethodException(name);
    }

    private static void calls(String readme) {
        for (Method method : HundredBoxes.class.getDeclaredMethods()) {
            if (Modifier.isPublic(method.getModifiers())) {
                names(readme, method.getName());
            }
        }
    }

    private static void tests(String readme) {
        String[] files = new File("src/test/java").list();
        T.due("there are tests", files != null && files.length > 0 ? 1 : 0, 1);
        for (String file : files == null ? new String[0] : files) {
            if (file.endsWith("Test.java")) {
                names(readme, file.substring(0, file.length() - 5));
            }
        }
    }

    private static void names(String readme, String name) {
        T.due("README names " + name, readme.contains("`" + name + "`") ? 1 : 0, 1);
    }
}
