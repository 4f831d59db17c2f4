import java.lang.reflect.Method;
import java.nio.file.Files;
import java.nio.file.Path;
import java.util.regex.Matcher;
import java.util.regex.Pattern;

/** The examples of README.md answer what stands behind them. It is run from the project's root. */
public final class ReadmeTest {
    private static final Pattern CALL = Pattern.compile("x\\.(\\w+)\\(([^)]*)\\);\\s*//\\s*(.*)");
    private static final Pattern NUMBER = Pattern.compile("(-?\\d+)\\b.*");

    public static void main(String[] args) throws Exception {
        int examples = 0;
        int calls = 0;
        boolean inExample = false;
        BlockCache x = null;
        for (String line : Files.readAllLines(Path.of("README.md"))) {
            if (line.startsWith("```")) {
                inExample = line.equals("```java");
            } else if (inExample && line.equals("BlockCache x = new BlockCache();")) {
                x = new BlockCache();
                examples++;
            } else if (inExample) {
                answers(x, line);
                calls++;
            }
        }
        Check.same("examples", examples, 4);
        Check.same("calls in them", calls > 20 ? 1 : 0, 1);
        Check.finish();
    }

    private static void answers(BlockCache x, String line) throws Exception {
        Matcher call = CALL.matcher(line);
        Check.same("is a call with its answer: " + line, call.matches() ? 1 : 0, 1);
        Object answer = answer(x, call.group(1), call.group(2).split(", "));
        if (answer == null) {
            return;
        }
        Matcher due = NUMBER.matcher(call.group(3));
        Check.same("tells a number: " + line, due.matches() ? 1 : 0, 1);
        Check.same(line, (Integer) answer, Integer.parseInt(due.group(1)));
    }

    private static Object answer(BlockCache x, String name, String[] numbers) throws Exception {
        Object[] values = new Object[numbers.length];
        Class<?>[] types = new Class<?>[numbers.length];
        for (int i = 0; i < numbers.length; i++) {
            values[i] = Long.decode(numbers[i]).intValue();
            types[i] = int.class;
        }
        Method method = BlockCache.class.getMethod(name, types);
        return method.invoke(x, values);
    }
}
