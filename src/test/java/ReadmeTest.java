import java.io.IOException;
import java.lang.reflect.InvocationTargetException;
import java.lang.reflect.Method;
import java.nio.file.Files;
import java.nio.file.Path;
import java.util.ArrayList;
import java.util.List;
import java.util.regex.Matcher;
import java.util.regex.Pattern;

/** The calls that README.md shows answer what it says behind them. */
public final class ReadmeTest {

    private static final Pattern SHOWN = Pattern.compile("desk\\.(\\w+)\\((.*)\\); +// (-?\\d+|\\w+Exception)(?::.*)?");

    public static void main(String[] args) throws IOException {
        TokenDesk desk = new TokenDesk();
        List<String> called = new ArrayList<>();
        for (String line : Files.readAllLines(Path.of("README.md"))) {
            Matcher shown = SHOWN.matcher(line);
            if (shown.matches()) {
                called.add(shown.group(1));
                Check.due(line, answer(desk, shown.group(1), numbers(shown.group(2))), shown.group(3));
            } else {
                Check.due(line, Boolean.toString(line.startsWith("desk.")), "false");
            }
        }
        for (String name : List.of("feed", "scan", "wrong", "token", "many")) {
            Check.due(name + " is shown", Boolean.toString(called.contains(name)), "true");
        }
        Check.end("ReadmeTest");
    }

    private static Object[] numbers(String written) {
        List<Object> numbers = new ArrayList<>();
        for (String number : written.isEmpty() ? new String[0] : written.split(", ")) {
            numbers.add(Integer.decode(number));
        }
        return numbers.toArray();
    }

    private static String answer(TokenDesk desk, String name, Object[] numbers) {
        for (Method method : TokenDesk.class.getMethods()) {
            if (method.getName().equals(name) && method.getParameterCount() == numbers.length) {
                try {
                    return String.valueOf(method.invoke(desk, numbers));
                } catch (InvocationTargetException e) {
                    return e.getCause().getClass().getSimpleName();
                } catch (IllegalAccessException e) {
                    return "not to be called";
                }
            }
        }
        return "no such call";
    }
}
