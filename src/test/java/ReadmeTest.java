import java.io.IOException;
import java.lang.reflect.Method;
import java.nio.file.Files;
import java.nio.file.Path;
import java.util.regex.Matcher;
import java.util.regex.Pattern;

/** README.md: what its example says that each call answers; run from the project's folder. */
public final class ReadmeTest {
    private static final Checks c = new Checks("ReadmeTest");
    private static final Pattern FED = Pattern.compile("for \\(char sign : \"([^\"]*)\"\\.toCharArray\\(\\)\\) x\\.feed\\(sign\\);");
    private static final Pattern CALL = Pattern.compile("x\\.(\\w+)\\(([^)]*)\\); +// (-?\\d+|[A-Z]+): .*");

    public static void main(String[] args) throws IOException, ReflectiveOperationException {
        String text = Files.readString(Path.of("README.md"));
        example(text.substring(text.indexOf("```java\n") + 8, text.lastIndexOf("```\n")));
        c.about("the calls that README.md names");
        for (Method method : GreatChunks.class.getDeclaredMethods()) {
            if (java.lang.reflect.Modifier.isPublic(method.getModifiers())) {
                c.due(method.getName(), text.contains("`" + method.getName() + "`") ? 1 : 0, 1);
            }
        }
        c.end();
    }

    private static void example(String lines) throws ReflectiveOperationException {
        c.about("the example in README.md");
        GreatChunks x = null;
        int calls = 0;
        for (String line : lines.split("\n")) {
            Matcher fed = FED.matcher(line);
            Matcher call = CALL.matcher(line);
            if (line.equals("GreatChunks x = new GreatChunks();")) {
                x = new GreatChunks();
            } else if (fed.matches()) {
                Checks.feed(x, fed.group(1));
            } else if (call.matches()) {
                c.due(line, answer(x, call.group(1), call.group(2)), told(call.group(3)));
                calls++;
            } else {
                c.due("a line that is no call: " + line, 1, 0);
            }
        }
        c.due("calls are there", calls > 0 ? 1 : 0, 1);
    }

    private static long answer(GreatChunks x, String name, String numbers) throws ReflectiveOperationException {
        String[] parts = numbers.isEmpty() ? new String[0] : numbers.split(", ");
        Class<?>[] types = new Class<?>[parts.length];
        Object[] values = new Object[parts.length];
        for (int i = 0; i < parts.length; i++) {
            types[i] = int.class;
            values[i] = Integer.parseInt(parts[i]);
        }
        return ((Number) GreatChunks.class.getMethod(name, types).invoke(x, values)).longValue();
    }

    private static long told(String answer) throws ReflectiveOperationException {
        boolean isConstant = Character.isUpperCase(answer.charAt(0));
        return isConstant ? GreatChunks.class.getField(answer).getInt(null) : Long.parseLong(answer);
    }
}
