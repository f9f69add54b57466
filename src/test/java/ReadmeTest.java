import java.io.IOException;
import java.lang.reflect.Method;
import java.nio.file.Files;
import java.nio.file.Path;
import java.util.regex.Matcher;
import java.util.regex.Pattern;

/** The calls that README.md shows answer what it says behind them. */
public final class ReadmeTest {
    private static final Pattern CALL = Pattern.compile("x\\.(\\w+)\\(([^)]*)\\); *// (-?\\d+)(:.*)?");

    private ReadmeTest() {
    }

    public static void main(String[] args) throws IOException, ReflectiveOperationException {
        Due.part("README.md");
        EvenWire x = null;
        for (String line : Files.readAllLines(readme())) {
            if (line.equals("EvenWire x = new EvenWire();")) {
                x = new EvenWire();
            } else if (line.startsWith("x.")) {
                ask(x, line);
            }
        }
        Due.end();
    }

    private static Path readme() {
        Path here = Path.of("README.md");
        return Files.exists(here) ? here : Path.of("..").resolve(here);
    }

    private static void ask(EvenWire x, String line) throws ReflectiveOperationException {
        Matcher call = CALL.matcher(line);
        boolean isCall = call.matches();
        Due.holds("a call with its answer: " + line, isCall);
        if (isCall) {
            String[] told = call.group(2).isEmpty() ? new String[0] : call.group(2).split(", ");
            Due.is(line, answer(x, call.group(1), told), Long.parseLong(call.group(3)));
        }
    }

    private static long answer(EvenWire x, String name, String[] told) throws ReflectiveOperationException {
        for (Method method : EvenWire.class.getMethods()) {
            if (method.getName().equals(name) && method.getParameterCount() == told.length) {
                return ((Number) method.invoke(x, numbers(method.getParameterTypes(), told))).longValue();
            }
        }
        throw new NoSuchMethodException(name);
    }

    private static Object[] numbers(Class<?>[] types, String[] told) {
        Object[] numbers = new Object[told.length];
        for (int i = 0; i < told.length; i++) {
            if (types[i] == long.class) {
                numbers[i] = Long.parseLong(told[i]);
            } else {
                numbers[i] = Integer.parseInt(told[i]);
            }
        }
        return numbers;
    }
}
