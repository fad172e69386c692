import java.io.IOException;
import java.lang.reflect.Method;
import java.nio.file.Files;
import java.nio.file.Path;
import java.util.regex.Matcher;
import java.util.regex.Pattern;

/** Does the calls that README.md shows, in their order, and looks whether the answers are as it says behind them. */
public final class ReadmeTest {
    private static final Pattern TOLD = Pattern.compile("tell\\(x, \"(.*)\"\\);");
    private static final Pattern CALL = Pattern.compile("x\\.(\\w+)\\((.*)\\); +// (-?\\d+): .*");
    private static final int CALLS_AT_LEAST = 20;

    public static void main(String[] args) throws IOException, ReflectiveOperationException {
        Checks c = new Checks();
        KeyLetters x = null;
        int calls = 0;
        for (String line : Files.readAllLines(Path.of("README.md"))) {
            Matcher told = TOLD.matcher(line);
            Matcher call = CALL.matcher(line);
            if (line.equals("KeyLetters x = new KeyLetters();")) {
                x = new KeyLetters();
            } else if (told.matches()) {
                Checks.feed(x, told.group(1));
            } else if (call.matches()) {
                c.due(line, answer(x, call.group(1), call.group(2)), Integer.parseInt(call.group(3)));
                calls++;
            }
        }
        c.due("README.md shows calls", calls >= CALLS_AT_LEAST, true);
        namesEachCall(c);
        c.end("ReadmeTest");
    }

    private static int answer(KeyLetters x, String name, String told) throws ReflectiveOperationException {
        String[] numbers = told.isEmpty() ? new String[0] : told.split(", ");
        Object[] arguments = new Object[numbers.length];
        for (int i = 0; i < numbers.length; i++) {
            arguments[i] = Integer.parseInt(numbers[i]);
        }
        for (Method m : KeyLetters.class.getMethods()) {
            if (m.getName().equals(name) && m.getDeclaringClass() == KeyLetters.class) {
                return (int) m.invoke(x, arguments);
            }
        }
        throw new NoSuchMethodException(name);
    }

    private static void namesEachCall(Checks c) throws IOException {
        String page = Files.readString(Path.of("README.md"));
        for (Method m : KeyLetters.class.getMethods()) {
            if (m.getDeclaringClass() == KeyLetters.class) {
                c.due("README.md names " + m.getName(), page.contains("`" + m.getName()), true);
            }
        }
    }
}
