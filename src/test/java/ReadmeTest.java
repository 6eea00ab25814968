import java.io.IOException;
import java.lang.reflect.Method;
import java.lang.reflect.Modifier;
import java.nio.charset.StandardCharsets;
import java.nio.file.Files;
import java.nio.file.Path;
import java.util.regex.Matcher;
import java.util.regex.Pattern;

/** The calls of README.md's example answer what it says behind them, and README.md names every call of the face. */
public final class ReadmeTest {
    private static final Pattern CALL = Pattern.compile("(?m)^bench\\.(\\w+)\\(([^)]*)\\);\\s*// (-?\\d+)\\b");
    private static final Pattern ANY_CALL = Pattern.compile("(?m)^bench\\.");

    private static int wrong = 0;

    public static void main(String[] args) throws IOException, ReflectiveOperationException {
        String text = Files.readString(Path.of("README.md"), StandardCharsets.UTF_8);
        int asked = example(text);
        for (Method method : TouchBench.class.getDeclaredMethods()) {
            if (Modifier.isPublic(method.getModifiers())) {
                check(text.contains("`" + method.getName() + "`"), "README.md does not name " + method.getName());
            }
        }
        System.out.println(asked + " calls of README.md, " + wrong + " wrong");
        if (wrong != 0) {
            System.exit(1);
        }
    }

    private static int example(String text) throws ReflectiveOperationException {
        TouchBench bench = new TouchBench();
        int asked = 0;
        Matcher call = CALL.matcher(text);
        while (call.find()) {
            asked++;
            long got = answer(bench, call.group(1), call.group(2).isEmpty() ? new String[0] : call.group(2).split(", "));
            check(got == Long.parseLong(call.group(3)), call.group() + ": answered " + got);
        }
        check(asked > 0 && asked == ANY_CALL.matcher(text).results().count(), "calls without an answer in README.md");
        return asked;
    }

    private static long answer(TouchBench bench, String name, String[] words) throws ReflectiveOperationException {
        for (Method method : TouchBench.class.getDeclaredMethods()) {
            if (method.getName().equals(name) && Modifier.isPublic(method.getModifiers())
                    && method.getParameterCount() == words.length) {
                Object[] values = new Object[words.length];
                for (int i = 0; i < words.length; i++) {
                    values[i] = value(method.getParameterTypes()[i], words[i]);
                }
                return (Long) method.invoke(bench, values);
            }
        }
        throw new NoSuchMethodException(name);
    }

    private static Object value(Class<?> type, String word) {
        if (type == boolean.class) {
            return Boolean.parseBoolean(word);
        }
        long sum = 0;
        for (String number : word.split(" \\+ ")) {
            sum += Long.parseLong(number);
        }
        return type == int.class ? (Object) (int) sum : (Object) sum;
    }

    private static void check(boolean holds, String breach) {
        if (!holds) {
            wrong++;
            System.out.println(breach);
        }
    }
}
