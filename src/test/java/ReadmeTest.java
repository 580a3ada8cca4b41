import java.lang.reflect.InvocationTargetException;
import java.lang.reflect.Method;
import java.nio.file.Files;
import java.nio.file.Path;
import java.util.Arrays;
import java.util.regex.Matcher;
import java.util.regex.Pattern;

/** The calls that README.md shows answer what stands behind them there. */
public final class ReadmeTest {
    private static final Pattern CALL = Pattern.compile("x\\.(\\w+)\\(([^)]*)\\); +// (throws \\w+|-?\\d+)(?::.*)?");

    public static void main(String[] args) throws Exception {
        String text = Files.readString(Path.of("README.md"));
        NineWays x = new NineWays();
        int calls = 0;
        for (String line : text.split("\n")) {
            Matcher call = CALL.matcher(line);
            if (call.matches()) {
                calls++;
                Checks.due(line, answer(x, call.group(1), call.group(2)), call.group(3));
            } else {
                Checks.due(line + " is a call that is understood", !line.startsWith("x."), true);
            }
        }
        Checks.due("README.md shows calls", calls > 0, true);
        for (Method method : NineWays.class.getMethods()) {
            boolean own = method.getDeclaringClass() == NineWays.class;
            boolean told = text.contains("`" + method.getName() + "`");
            Checks.due("README.md tells " + method.getName(), told || !own, true);
        }
        Checks.end("ReadmeTest");
    }

    private static String answer(NineWays x, String name, String parameters) throws Exception {
        String[] told = parameters.isEmpty() ? new String[0] : parameters.split(", ");
        Object[] numbers = Arrays.stream(told).map(Integer::decode).toArray();
        Class<?>[] types = new Class<?>[numbers.length];
        Arrays.fill(types, int.class);
        try {
            return String.valueOf(NineWays.class.getMethod(name, types).invoke(x, numbers));
        } catch (InvocationTargetException e) {
            return "throws " + e.getCause().getClass().getSimpleName();
        }
    }
}
