import java.io.IOException;
import java.lang.reflect.Method;
import java.nio.file.Files;
import java.nio.file.Path;
import java.util.regex.Matcher;
import java.util.regex.Pattern;

/** The calls that README.md shows must answer what stands behind them there. */
public final class ReadmeTest {
    private static final Pattern BLOCK = Pattern.compile("(?s)```java\n(.*?)```");
    private static final Pattern CALL = Pattern.compile("x\\.(\\w+)\\((.*?)\\);\\s*// (-?\\d+)\\b.*");

    private ReadmeTest() {
    }

    public static void main(String[] args) throws IOException, ReflectiveOperationException {
        Matcher blocks = BLOCK.matcher(Files.readString(Path.of("README.md")));
        int calls = 0;
        while (blocks.find()) {
            calls += run(blocks.group(1).split("\n"));
        }
        Due.isTrue("README.md shows calls", calls > 0);
        Due.finish();
    }

    private static int run(String[] lines) throws ReflectiveOperationException {
        LastLetter x = null;
        int calls = 0;
        for (String line : lines) {
            Matcher call = CALL.matcher(line);
            if (line.equals("LastLetter x = new LastLetter();")) {
                x = new LastLetter();
            } else if (x != null && call.matches()) {
                Due.is("README.md: " + line, answer(x, call.group(1), call.group(2)), Long.parseLong(call.group(3)));
                calls++;
            } else {
                Due.isTrue("README.md shows what is not looked at: " + line, line.startsWith("//"));
            }
        }
        return calls;
    }

    private static long answer(LastLetter x, String name, String told) throws ReflectiveOperationException {
        for (Method method : LastLetter.class.getMethods()) {
            if (method.getName().equals(name)) {
                Object answer = method.invoke(x, numbers(told));
                return answer instanceof Boolean truth ? (truth ? 1 : 0) : ((Number) answer).longValue();
            }
        }
        throw new NoSuchMethodException(name);
    }

    private static Object[] numbers(String told) {
        if (told.isEmpty()) {
            return new Object[0];
        }
        String[] parts = told.split(", ");
        Object[] numbers = new Object[parts.length];
        for (int i = 0; i < parts.length; i++) {
            boolean isTruth = parts[i].equals("true") || parts[i].equals("false");
            numbers[i] = isTruth ? (Object) Boolean.valueOf(parts[i]) : Integer.decode(parts[i]);
        }
        return numbers;
    }
}
