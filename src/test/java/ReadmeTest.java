import java.io.IOException;
import java.lang.reflect.InvocationTargetException;
import java.lang.reflect.Method;
import java.nio.file.Files;
import java.nio.file.Path;
import java.util.List;
import java.util.regex.Matcher;
import java.util.regex.Pattern;

/** What README.md shows: its rows "x.call(numbers);  // answer", in their order, on the tale that stands ahead of them. */
public final class ReadmeTest {
    private static final Pattern ROW = Pattern.compile("x\\.(\\w+)\\(([^)]*)\\);\\s*// (-?\\d+)(?:: .*)?");
    private static final int ROWS_AT_LEAST = 30;
    private static final Due DUE = new Due();

    public static void main(String[] args) throws IOException, ReflectiveOperationException {
        UncutTale x = new UncutTale();
        StringBuilder told = new StringBuilder();
        String block = "";
        int rows = 0;
        for (String line : Files.readAllLines(Path.of("README.md"))) {
            if (line.startsWith("```")) {
                if (block.equals("text")) {
                    x = Due.told(told.toString());
                }
                block = line.substring(3);
            } else if (block.equals("text")) {
                told.append(line).append('\n');
            } else if (block.equals("java") && !line.equals("UncutTale x = new UncutTale();")) {
                rows++;
                row(x, line);
            }
        }
        DUE.is("rows enough were found", rows >= ROWS_AT_LEAST ? 1 : 0, 1);
        DUE.end();
    }

    private static void row(UncutTale x, String line) throws ReflectiveOperationException {
        Matcher m = ROW.matcher(line);
        DUE.is("a call and its answer: " + line, m.matches() ? 1 : 0, 1);
        if (m.matches()) {
            DUE.is(line, called(x, m.group(1), m.group(2)), Long.parseLong(m.group(3)));
        }
    }

    private static long called(UncutTale x, String name, String given) throws ReflectiveOperationException {
        List<String> texts = given.isEmpty() ? List.of() : List.of(given.split(", "));
        for (Method m : UncutTale.class.getMethods()) {
            if (m.getName().equals(name) && m.getParameterCount() == texts.size()) {
                return answer(x, m, texts);
            }
        }
        throw new IllegalStateException("no such call: " + name);
    }

    private static long answer(UncutTale x, Method m, List<String> texts)
            throws IllegalAccessException, InvocationTargetException {
        Object[] numbers = new Object[texts.size()];
        for (int i = 0; i < numbers.length; i++) {
            long v = Long.decode(texts.get(i));
            numbers[i] = m.getParameterTypes()[i] == long.class ? (Object) v : (Object) (int) v;
        }
        return ((Number) m.invoke(x, numbers)).longValue();
    }
}
