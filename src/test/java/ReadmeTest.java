import java.lang.reflect.Method;
import java.nio.file.Files;
import java.nio.file.Path;
import java.util.regex.Matcher;
import java.util.regex.Pattern;

/** The calls that README.md tells with their answers; .ci/run starts it at the project's root. */
public final class ReadmeTest {
    private static final Pattern TEXT = Pattern.compile("^tell\\(x, \"([^\"]*)\"\\);.*");
    private static final Pattern CALL = Pattern.compile("^x\\.(\\w+)\\(([-0-9, ]*)\\); +// (-?\\d+): .*");
    private static final Check check = new Check();

    public static void main(String[] args) throws Exception {
        WovenRows x = new WovenRows();
        int calls = 0;
        for (String line : Files.readAllLines(Path.of("README.md"))) {
            Matcher text = TEXT.matcher(line);
            Matcher call = CALL.matcher(line);
            if (text.matches()) {
                Check.tell(x, text.group(1));
            } else if (call.matches()) {
                calls++;
                check.due(line, answer(x, call.group(1), call.group(2)), Long.parseLong(call.group(3)));
            } else {
                check.holds("a line that is read: " + line, !line.startsWith("x.") && !line.startsWith("tell("));
            }
        }
        check.holds("README.md tells calls", calls > 30);
        check.end();
    }

    private static long answer(WovenRows x, String name, String numbers) throws Exception {
        String[] parts = numbers.isEmpty() ? new String[0] : numbers.split(", *");
        Object[] given = new Object[parts.length];
        Class<?>[] kinds = new Class<?>[parts.length];
        for (int i = 0; i < parts.length; i++) {
            given[i] = Integer.valueOf(parts[i]);
            kinds[i] = int.class;
        }
        Method method = WovenRows.class.getMethod(name, kinds);
        return ((Number) method.invoke(x, given)).longValue();
    }
}
