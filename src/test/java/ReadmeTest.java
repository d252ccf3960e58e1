import java.lang.reflect.InvocationTargetException;
import java.lang.reflect.Method;
import java.nio.file.Files;
import java.nio.file.Path;
import java.util.regex.Matcher;
import java.util.regex.Pattern;

/** The calls that README.md shows under 'Use' answer what it says behind them. */
public final class ReadmeTest {
    private static final Pattern CALL = Pattern.compile("x\\.(\\w+)\\((.*)\\); +// (-?\\d+):.*");

    public static void main(String[] args) throws Exception {
        Due due = new Due("ReadmeTest");
        SelfChange x = new SelfChange();
        int calls = 0;
        int shown = 0;
        for (String line : Files.readAllLines(Path.of("README.md"))) {
            Matcher call = CALL.matcher(line);
            shown += line.startsWith("x.") ? 1 : 0;
            if (call.matches()) {
                calls++;
                due.answer(line, answer(x, call.group(1), call.group(2)), Integer.parseInt(call.group(3)));
            }
        }
        due.answer("some calls are shown", calls > 0 ? 1 : 0, 1);
        due.answer("calls with an answer", calls, shown);
        due.end();
    }

    private static int answer(SelfChange x, String name, String args)
            throws IllegalAccessException, InvocationTargetException {
        String[] texts = args.isEmpty() ? new String[0] : args.split(", ");
        for (Method m : SelfChange.class.getMethods()) {
            if (m.getName().equals(name) && m.getParameterCount() == texts.length) {
                return (Integer) m.invoke(x, numbers(m.getParameterTypes(), texts));
            }
        }
        throw new IllegalArgumentException("no such call: " + name);
    }

    private static Object[] numbers(Class<?>[] types, String[] texts) {
        Object[] numbers = new Object[texts.length];
        for (int i = 0; i < texts.length; i++) {
            long number = Long.decode(texts[i].replace("L", ""));
            if (types[i] == long.class) {
                numbers[i] = number;
            } else {
                numbers[i] = (int) number;
            }
        }
        return numbers;
    }
}
