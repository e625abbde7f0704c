import java.io.IOException;
import java.lang.reflect.Method;
import java.nio.file.Files;
import java.nio.file.Path;
import java.util.Arrays;
import java.util.Set;
import java.util.TreeSet;
import java.util.regex.Matcher;
import java.util.regex.Pattern;

/** That the calls in README.md give the answers that stand behind them. */
public final class ReadmeTest {
    private static final String NEW_OBJECT = "FilterReader x = new FilterReader();";
    private static final Pattern CALL = Pattern.compile("x\\.(\\w+)\\(([^)]*)\\);\\s*// (-?\\d+)(:.*)?");
    private static final Set<String> FACE = Set.of("feed", "read", "filter", "place", "many", "holds", "fails", "which");

    private final Set<String> called = new TreeSet<>();
    private FilterReader x;

    public static void main(String[] args) throws IOException, ReflectiveOperationException {
        new ReadmeTest().run();
        Check.end();
    }

    private void run() throws IOException, ReflectiveOperationException {
        boolean within = false;
        for (String line : Files.readAllLines(Path.of("README.md"))) {
            if (line.startsWith("```")) {
                within = line.equals("```java");
            } else if (within && !line.isEmpty() && !line.startsWith("//")) {
                statement(line);
            }
        }
        Check.due("calls of README.md " + called, called.equals(new TreeSet<>(FACE)));
    }

    private void statement(String line) throws ReflectiveOperationException {
        Matcher call = CALL.matcher(line);
        if (line.equals(NEW_OBJECT)) {
            x = new FilterReader();
        } else if (x != null && call.matches()) {
            called.add(call.group(1));
            Check.due(line, answer(call.group(1), call.group(2)), Integer.parseInt(call.group(3)));
        } else {
            Check.due("a call with its answer: " + line, false);
        }
    }

    private int answer(String name, String numbers) throws ReflectiveOperationException {
        String[] words = numbers.isEmpty() ? new String[0] : numbers.split(", ");
        Object[] given = new Object[words.length];
        for (int i = 0; i < words.length; i++) {
            given[i] = Long.decode(words[i]).intValue();
        }
        Class<?>[] types = new Class<?>[given.length];
        Arrays.fill(types, int.class);
        Method method = FilterReader.class.getMethod(name, types);
        return (Integer) method.invoke(x, given);
    }
}
