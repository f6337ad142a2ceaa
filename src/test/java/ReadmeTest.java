import java.io.IOException;
import java.lang.reflect.Method;
import java.lang.reflect.Modifier;
import java.nio.file.Files;
import java.nio.file.Path;
import java.util.regex.Matcher;
import java.util.regex.Pattern;

/** The example of README.md answers as it says there, and no call of the face is left out. */
public final class ReadmeTest {
    private static final Pattern TEXT = Pattern.compile("\"(w[^\"]*;)\"\\.toCharArray");
    private static final Pattern CALL = Pattern.compile("(?m)^barrow\\.(\\w+)\\(([-\\d, ]*)\\); +// (-?\\d+):");

    private ReadmeTest() {
    }

    public static void main(String[] args) throws IOException, ReflectiveOperationException {
        String readme = Files.readString(Path.of("README.md"));
        example(readme);
        face(readme);
        Due.end();
    }

    private static void example(String readme) throws ReflectiveOperationException {
        Matcher text = TEXT.matcher(readme);
        Due.is("a yard is told in README.md", text.find() ? 1 : 0, 1);
        TippedBarrow barrow = Due.typed(text.group(1));
        Matcher call = CALL.matcher(readme);
        int calls = 0;
        while (call.find()) {
            calls++;
            Due.is(call.group(1) + "(" + call.group(2) + ")", answer(barrow, call.group(1), call.group(2)),
                Long.parseLong(call.group(3)));
        }
        long lines = readme.lines().filter(line -> line.startsWith("barrow.")).count();
        Due.is("calls of the example whose answers are told", calls, lines);
    }

    private static long answer(TippedBarrow barrow, String name, String told) throws ReflectiveOperationException {
        String[] words = told.isEmpty() ? new String[0] : told.split(", *");
        Class<?>[] types = new Class<?>[words.length];
        Object[] numbers = new Object[words.length];
        for (int i = 0; i < words.length; i++) {
            types[i] = int.class;
            numbers[i] = Integer.valueOf(words[i]);
        }
        return ((Number) TippedBarrow.class.getMethod(name, types).invoke(barrow, numbers)).longValue();
    }

    private static void face(String readme) {
        for (Method method : TippedBarrow.class.getDeclaredMethods()) {
            if (Modifier.isPublic(method.getModifiers())) {
                Due.is(method.getName() + " stands in README.md", readme.contains("`" + method.getName() + "(") ? 1 : 0, 1);
            }
        }
    }
}
