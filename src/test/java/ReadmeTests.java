import java.io.IOException;
import java.lang.reflect.InvocationTargetException;
import java.lang.reflect.Method;
import java.lang.reflect.Modifier;
import java.nio.file.Files;
import java.nio.file.Path;
import java.util.regex.Matcher;
import java.util.regex.Pattern;

/** README.md: the calls of its example answer what stands behind them, and no call is left out of its table. */
public final class ReadmeTests {
    private static final Pattern CALL = Pattern.compile("hall\\.(\\w+)\\((.*)\\);\\s+// ([^:]+)(:.*)?");

    private ReadmeTests() {
    }

    public static void main(String[] args) throws IOException {
        String text = Files.readString(Path.of("README.md"));
        int begin = text.indexOf("```java");
        int end = text.indexOf("```", begin + 3);
        Check.due("README.md has an example", true, () -> begin >= 0 && end > begin);
        if (begin >= 0 && end > begin) {
            makeCalls(text.substring(begin, end).split("\n"));
        }
        for (Method method : HallGuards.class.getDeclaredMethods()) {
            if (Modifier.isPublic(method.getModifiers())) {
                Check.due("README.md names " + method.getName(), true,
                        () -> text.contains("`" + method.getName() + "`"));
            }
        }
        Check.end("ReadmeTests");
    }

    private static void makeCalls(String[] lines) {
        HallGuards hall = new HallGuards();
        int calls = 0;
        for (String line : lines) {
            Matcher call = CALL.matcher(line);
            if (call.matches()) {
                calls++;
                Check.due("README.md: " + line, call.group(3), () -> answer(hall, call.group(1), call.group(2)));
            } else {
                Check.due("README.md: no call, " + line, false, () -> line.startsWith("hall."));
            }
        }
        int made = calls;
        Check.due("README.md makes calls", true, () -> made > 20);
    }

    private static String answer(HallGuards hall, String name, String written) throws IllegalAccessException {
        String[] parts = written.isEmpty() ? new String[0] : written.split(", ");
        Object[] numbers = new Object[parts.length];
        Class<?>[] types = new Class<?>[parts.length];
        for (int index = 0; index < parts.length; index++) {
            boolean letter = parts[index].startsWith("'");
            numbers[index] = letter ? (int) parts[index].charAt(1) : Integer.parseInt(parts[index]);
            types[index] = int.class;
        }
        try {
            Method method = HallGuards.class.getMethod(name, types);
            Object got = method.invoke(hall, numbers);
            return method.getReturnType() == void.class ? "done" : String.valueOf(got);
        } catch (InvocationTargetException thrown) {
            return "throws." + thrown.getCause().getClass().getSimpleName();
        } catch (NoSuchMethodException none) {
            return "there is no such call";
        }
    }
}
