import java.lang.reflect.InvocationTargetException;
import java.lang.reflect.Method;
import java.nio.file.Files;
import java.nio.file.Path;
import java.util.List;
import java.util.regex.Matcher;
import java.util.regex.Pattern;

/** The example in README.md answers what stands beside each of its calls. */
public final class ReadmeTest {
    private static final Pattern CALL =
            Pattern.compile("(int frame = )?bus\\.(\\w+)\\((.*)\\);\\s*(?://\\s*(?:(-?\\d+): )?.*)?");

    private final CanBits bus = new CanBits();
    private int frame = 0;
    private int answers = 0;

    private int valueOf(String argument) {
        return argument.equals("CanBits.NONE") ? CanBits.NONE
                : argument.equals("frame") ? frame : Integer.parseInt(argument);
    }

    private long answer(String name, Object[] arguments) {
        for (Method method : CanBits.class.getMethods()) {
            if (method.getDeclaringClass() == CanBits.class && method.getName().equals(name)) {
                return answer(method, arguments);
            }
        }
        throw new IllegalStateException("the class has no " + name);
    }

    private long answer(Method method, Object[] arguments) {
        try {
            Object answer = method.invoke(bus, arguments);
            return answer == null ? 0 : (Integer) answer;
        } catch (InvocationTargetException e) {
            throw (RuntimeException) e.getCause();
        } catch (IllegalAccessException e) {
            throw new IllegalStateException(e);
        }
    }

    private void follow(String line) {
        Matcher call = CALL.matcher(line);
        if (!call.matches()) {
            Due.same(line, "CanBits bus = new CanBits();", line.replaceFirst("\\s*//.*", ""));
            return;
        }
        Object[] arguments = new Object[0];
        if (!call.group(3).isEmpty()) {
            arguments = List.of(call.group(3).split(", ")).stream().map(this::valueOf).toArray();
        }
        Object[] given = arguments;
        String got = Due.answerOf(() -> answer(call.group(2), given));
        // A call with no answer beside it has none, but must not throw.
        Due.same(line, call.group(4) == null ? "0" : call.group(4), got);
        if (call.group(1) != null) {
            frame = Integer.parseInt(got);
        }
        answers += call.group(4) == null ? 0 : 1;
    }

    public static void main(String[] args) throws Exception {
        ReadmeTest test = new ReadmeTest();
        List<String> lines = Files.readAllLines(Path.of("README.md"));
        int from = lines.indexOf("```java");
        int to = lines.indexOf("```");
        Due.is("the example's place", 1, () -> from >= 0 && to > from ? 1 : 0);
        for (int i = from + 1; from >= 0 && i < to; i++) {
            test.follow(lines.get(i));
        }
        Due.is("the example's answers", 1, () -> test.answers > 10 ? 1 : 0);
        Due.end();
    }
}
