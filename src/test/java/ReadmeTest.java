import java.io.IOException;
import java.lang.reflect.Method;
import java.lang.reflect.Modifier;
import java.nio.file.Files;
import java.nio.file.Path;
import java.util.regex.Matcher;
import java.util.regex.Pattern;

/** README.md: its examples, run line by line on one object, answer what stands behind them. */
public final class ReadmeTest {
    private static final Pattern BLOCK = Pattern.compile("(?s)```java\\n(.*?)```");
    private static final Pattern CALL = Pattern.compile("x\\.(\\w+)\\(([-0-9, ]*)\\); +// (-?\\d+): .+");
    private static final Pattern TYPED = Pattern.compile(
            "for \\(char c : \"([^\"]*)\"\\.toCharArray\\(\\)\\) \\{ x\\.type\\(c\\); }");

    private static FlangeFolder x = null;

    private ReadmeTest() {
    }

    public static void main(String[] args) throws IOException, ReflectiveOperationException {
        String text = Files.readString(Path.of("README.md"));
        Matcher block = BLOCK.matcher(text);
        int lines = 0;
        while (block.find()) {
            for (String line : block.group(1).split("\n")) {
                example(line);
                lines++;
            }
        }
        Check.holds("README.md has examples", lines > 0);
        everyCallIsNamed(text);
        Check.end();
    }

    private static void example(String line) throws ReflectiveOperationException {
        Matcher call = CALL.matcher(line);
        Matcher typed = TYPED.matcher(line);
        if (line.equals("FlangeFolder x = new FlangeFolder();")) {
            x = new FlangeFolder();
        } else if (typed.matches()) {
            typed.group(1).chars().forEach(x::type);
        } else if (call.matches()) {
            Check.due(line, answer(call.group(1), call.group(2)), Long.parseLong(call.group(3)));
        } else {
            Check.holds("a line that can be run: " + line, false);
        }
    }

    private static long answer(String name, String numbers) throws ReflectiveOperationException {
        String[] parts = numbers.isEmpty() ? new String[0] : numbers.split(", ");
        Class<?>[] types = new Class<?>[parts.length];
        Object[] values = new Object[parts.length];
        for (int n = 0; n < parts.length; n++) {
            types[n] = int.class;
            values[n] = Integer.valueOf(parts[n]);
        }
        return ((Number) FlangeFolder.class.getMethod(name, types).invoke(x, values)).longValue();
    }

    private static void everyCallIsNamed(String text) {
        for (Method m : FlangeFolder.class.getDeclaredMethods()) {
            if (Modifier.isPublic(m.getModifiers())) {
                Check.holds("README.md tells of " + m.getName(), text.contains("`" + m.getName() + "("));
            }
        }
    }
}
