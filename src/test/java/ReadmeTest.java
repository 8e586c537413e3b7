import java.io.IOException;
import java.lang.reflect.InvocationTargetException;
import java.lang.reflect.Method;
import java.nio.file.Files;
import java.nio.file.Path;
import java.util.regex.Matcher;
import java.util.regex.Pattern;

/** The calls in README.md answer what stands behind them there. */
public final class ReadmeTest {
    private static final Pattern FEED = Pattern.compile("feed\\(x, \"(.*)\"\\);");
    private static final Pattern CALL = Pattern.compile("x\\.(\\w+)\\(([^)]*)\\); +// (-?\\w+).*");

    public static void main(String[] args) throws IOException, ReflectiveOperationException {
        WordsAndRows x = new WordsAndRows();
        int calls = 0;
        for (String line : Files.readAllLines(Path.of("README.md"))) {
            Matcher feed = FEED.matcher(line);
            Matcher call = CALL.matcher(line);
            if (feed.matches()) {
                Feeder.feed(x, feed.group(1));
            } else if (call.matches()) {
                Check.due(line, answer(x, call.group(1), call.group(2)), call.group(3));
                calls++;
            } else {
                Check.due("a call without its answer: " + line, line.startsWith("x.") || line.startsWith("feed("), false);
            }
        }
        Check.due("calls in README.md, at least 25", calls >= 25, true);
        Check.end();
    }

    private static String answer(WordsAndRows x, String name, String arguments) throws ReflectiveOperationException {
        String[] texts = arguments.isEmpty() ? new String[0] : arguments.split(", ");
        for (Method method : WordsAndRows.class.getMethods()) {
            if (!method.getName().equals(name)) continue;
            Object[] values = new Object[texts.length];
            for (int i = 0; i < texts.length; i++) values[i] = value(texts[i]);
            try {
                return String.valueOf(method.invoke(x, values));
            } catch (InvocationTargetException e) {
                return "throws " + e.getCause();
            }
        }
        return "no such call";
    }

    private static Object value(String text) {
        if (text.equals("true") || text.equals("false")) return Boolean.valueOf(text);
        return Integer.valueOf(text);
    }
}
