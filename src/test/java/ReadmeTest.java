import java.io.IOException;
import java.lang.reflect.InvocationTargetException;
import java.lang.reflect.Method;
import java.lang.reflect.Modifier;
import java.nio.charset.StandardCharsets;
import java.nio.file.Files;
import java.nio.file.Path;
import java.util.Set;
import java.util.TreeSet;
import java.util.regex.Matcher;
import java.util.regex.Pattern;

/**
 * Makes the calls that README.md tells, and compares what they answer with what stands behind them.
 * It is run from the project's folder.
 */
public final class ReadmeTest {
    /** A call, and behind two strokes its answer, or the exception that it throws; then words, if any. */
    private static final Pattern CALL = Pattern.compile(
        "table\\.(\\w+)\\(((?:-?\\d+(?:, -?\\d+)*)?)\\); *"
        + "// (throws \\w+|-?\\d+(?:\\.\\d+)?)(?:: .*)?");

    private static final FairHandful TABLE = new FairHandful();

    public static void main(String[] args) throws IOException {
        Set<String> called = new TreeSet<>();
        for (String line : Files.readAllLines(Path.of("README.md"), StandardCharsets.UTF_8)) {
            Matcher call = CALL.matcher(line);
            if (call.matches()) {
                called.add(call.group(1));
                compare(line, answer(call.group(1), numbers(call.group(2))), call.group(3));
            } else {
                Check.that("a call that this test can't read: " + line, !line.startsWith("table."));
            }
        }
        for (Method method : FairHandful.class.getDeclaredMethods()) {
            if (Modifier.isPublic(method.getModifiers())) {
                Check.that("README.md does not call " + method.getName(), called.contains(method.getName()));
            }
        }
        Check.end();
    }

    private static void compare(String line, String got, String told) {
        Check.that(line + " .. but it answers " + got, got.equals(told));
    }

    private static int[] numbers(String told) {
        if (told.isEmpty()) {
            return new int[0];
        }
        String[] parts = told.split(", ");
        int[] numbers = new int[parts.length];
        for (int i = 0; i < parts.length; i++) {
            numbers[i] = Integer.parseInt(parts[i]);
        }
        return numbers;
    }

    private static String answer(String name, int[] numbers) {
        Class<?>[] kinds = new Class<?>[numbers.length];
        Object[] given = new Object[numbers.length];
        for (int i = 0; i < numbers.length; i++) {
            kinds[i] = int.class;
            given[i] = numbers[i];
        }
        try {
            return String.valueOf(FairHandful.class.getMethod(name, kinds).invoke(TABLE, given));
        } catch (InvocationTargetException e) {
            return "throws " + e.getCause().getClass().getSimpleName();
        } catch (ReflectiveOperationException e) {
            return "nothing, there is no such call";
        }
    }
}
