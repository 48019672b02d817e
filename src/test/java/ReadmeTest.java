import java.io.IOException;
import java.lang.reflect.InvocationTargetException;
import java.lang.reflect.Method;
import java.nio.file.Files;
import java.nio.file.Path;
import java.util.regex.Matcher;
import java.util.regex.Pattern;

/** Every call in README.md with an answer behind it answers that; all of them are made on one object. */
public final class ReadmeTest {
    private static final Pattern CALL = Pattern.compile(
            "^(?:desk\\.(\\w+)\\(([^)]*)\\)|tell\\(desk, \"([^\"]*)\"\\)); *// (throws \\w+|-?\\d+)");

    public static void main(String[] args) throws IOException, ReflectiveOperationException {
        String place = System.getProperty("readme", "README.md");
        DesignDesk desk = new DesignDesk();
        int calls = 0;
        int told = 0;
        for (String line : Files.readAllLines(Path.of(place))) {
            told += line.startsWith("desk.") || line.startsWith("tell(") ? 1 : 0;
            Matcher call = CALL.matcher(line);
            if (call.find()) {
                calls++;
                String got = call.group(3) != null ? Integer.toString(Check.tell(desk, call.group(3)))
                        : answer(desk, call.group(1), call.group(2));
                Check.same(line, got, call.group(4));
            }
        }
        Check.due("calls with an answer behind them", calls, told);
        Check.due("there are some", calls > 0 ? 1 : 0, 1);
        Check.end();
    }

    private static String answer(DesignDesk desk, String name, String list) throws ReflectiveOperationException {
        String[] words = list.isEmpty() ? new String[0] : list.split(", *");
        Class<?>[] kinds = new Class<?>[words.length];
        Object[] numbers = new Object[words.length];
        for (int i = 0; i < words.length; i++) {
            kinds[i] = int.class;
            numbers[i] = Integer.decode(words[i]);
        }
        Method method = DesignDesk.class.getMethod(name, kinds);
        try {
            return method.invoke(desk, numbers).toString();
        } catch (InvocationTargetException e) {
            return "throws " + e.getCause().getClass().getSimpleName();
        }
    }
}
