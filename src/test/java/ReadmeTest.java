import java.lang.reflect.InvocationTargetException;
import java.lang.reflect.Method;
import java.nio.file.Files;
import java.nio.file.Path;
import java.util.regex.Matcher;
import java.util.regex.Pattern;

/** The calls that README.md shows, one behind the other on one object, answer what stands behind them there. */
public final class ReadmeTest {
    private static final Pattern CALL = Pattern.compile("bell\\.(\\w+)\\((.*)\\); +// (?:throws (\\w+)|(-?\\d+))");
    private static final Pattern PUT = Pattern.compile("put\\(bell, \"([^\"]*)\"\\)");
    private static final Check check = new Check("ReadmeTest");

    public static void main(String[] args) throws Exception {
        OwedBell bell = new OwedBell();
        int calls = 0;
        for (String line : Files.readAllLines(Path.of("README.md"))) {
            Matcher call = CALL.matcher(line);
            if (call.matches()) {
                calls++;
                check.due(line, ask(bell, call, line), call.group(3) == null ? Long.parseLong(call.group(4)) : 0);
            } else {
                check.isTrue("no answer is left out: " + line, !line.startsWith("bell."));
            }
        }
        check.isTrue("README.md shows calls", calls > 30);
        check.end();
    }

    /** What the call answers, or 0 if it throws what the line says. */
    private static long ask(OwedBell bell, Matcher call, String line) throws Exception {
        Method method = method(call.group(1));
        Object[] given = given(bell, call.group(2));
        String due = call.group(3);
        try {
            long got = ((Number) method.invoke(bell, given)).longValue();
            check.isTrue(line + " answered " + got, due == null);
            return due == null ? got : 0;
        } catch (InvocationTargetException e) {
            check.isTrue(line + " threw " + e.getCause(), e.getCause().getClass().getSimpleName().equals(due));
            return 0;
        }
    }

    private static Method method(String name) {
        for (Method method : OwedBell.class.getMethods()) {
            if (method.getName().equals(name)) {
                return method;
            }
        }
        throw new IllegalStateException("README.md calls " + name + ", which is not there");
    }

    private static Object[] given(OwedBell bell, String written) {
        Matcher put = PUT.matcher(written);
        if (put.matches()) {
            return new Object[] {Check.feed(bell, put.group(1))};
        }
        if (written.isEmpty()) {
            return new Object[0];
        }
        String[] numbers = written.split(", ");
        Object[] given = new Object[numbers.length];
        for (int i = 0; i < given.length; i++) {
            given[i] = Integer.valueOf(numbers[i]);
        }
        return given;
    }
}
