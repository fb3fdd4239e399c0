import java.io.IOException;
import java.lang.reflect.Method;
import java.nio.file.Files;
import java.nio.file.Path;
import java.util.regex.Matcher;
import java.util.regex.Pattern;

/** Makes the calls that README.md shows, with the answers that stand behind them. Runs in the project's directory. */
public final class ReadmeTest {
    private static final Check CHECK = new Check("ReadmeTest");
    private static final Pattern CALL = Pattern.compile("x\\.(\\w+)\\(([-0-9, ]*)\\); *// (-?\\d+).*");
    private static final Pattern TOLD = Pattern.compile("tell\\(x, \"(.*)\"\\); *// (-?\\d+).*");

    private ReadmeTest() {
    }

    public static void main(String[] args) throws IOException, ReflectiveOperationException {
        LeftTurns x = new LeftTurns();
        int calls = 0;
        for (String line : Files.readAllLines(Path.of("README.md"))) {
            Matcher call = CALL.matcher(line);
            Matcher told = TOLD.matcher(line);
            if (told.matches()) {
                CHECK.due(line, Check.read(x, told.group(1)), Long.parseLong(told.group(2)));
                calls++;
            } else if (call.matches()) {
                CHECK.due(line, answer(x, call.group(1), call.group(2).split(", *")), Long.parseLong(call.group(3)));
                calls++;
            }
        }
        CHECK.due("calls are shown", calls > 10);
        CHECK.end();
    }

    private static long answer(LeftTurns x, String name, String[] numbers) throws ReflectiveOperationException {
        for (Method m : LeftTurns.class.getMethods()) {
            if (m.getName().equals(name)) {
                Object[] values = new Object[m.getParameterCount()];
                for (int i = 0; i < values.length; i++) {
                    long value = Long.parseLong(numbers[i]);
                    values[i] = m.getParameterTypes()[i] == long.class ? (Object) value : (Object) (int) value;
                }
                return ((Number) m.invoke(x, values)).longValue();
            }
        }
        throw new IllegalArgumentException("README.md shows a call that there isn't: " + name);
    }
}
