import java.io.IOException;
import java.lang.reflect.Method;
import java.nio.file.Files;
import java.nio.file.Path;
import java.util.regex.Matcher;
import java.util.regex.Pattern;

/** The calls that README.md shows, in their order on one object, answer what it tells behind them. */
public final class ReadmeTest {
    private static final Due DUE = new Due();
    private static final Pattern CALL = Pattern.compile("x\\.(\\w+)\\((.*)\\);\\s*// (true|false|-?\\d+)(:.*)?");
    private static final int CALLS_TOLD = 20;

    public static void main(String[] args) throws IOException, ReflectiveOperationException {
        TaperedNumbers x = new TaperedNumbers();
        int calls = 0;
        for (String line : Files.readAllLines(Path.of("README.md"))) {
            if (!line.startsWith("x.")) {
                continue;
            }
            Matcher call = CALL.matcher(line);
            DUE.yes("an answer is told: " + line, call.matches());
            if (call.matches()) {
                DUE.yes(line, answer(x, call.group(1), call.group(2)).equals(call.group(3)));
                calls++;
            }
        }
        DUE.yes("calls are shown: " + calls, calls >= CALLS_TOLD);
        DUE.end();
    }

    private static String answer(TaperedNumbers x, String name, String told) throws ReflectiveOperationException {
        String[] parts = told.isEmpty() ? new String[0] : told.split(", ");
        for (Method method : TaperedNumbers.class.getMethods()) {
            if (method.getName().equals(name) && method.getParameterCount() == parts.length) {
                return String.valueOf(method.invoke(x, values(method, parts)));
            }
        }
        return "no such call";
    }

    private static Object[] values(Method method, String[] parts) {
        Object[] values = new Object[parts.length];
        for (int i = 0; i < parts.length; i++) {
            boolean yesOrNo = method.getParameterTypes()[i] == boolean.class;
            values[i] = yesOrNo ? (Object) Boolean.valueOf(parts[i]) : (Object) Integer.decode(parts[i]);
        }
        return values;
    }
}
