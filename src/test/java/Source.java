import java.io.IOException;
import java.nio.file.Files;
import java.nio.file.Path;
import java.util.ArrayList;
import java.util.LinkedHashMap;
import java.util.List;
import java.util.Map;
import java.util.Set;
import java.util.TreeSet;
import java.util.regex.Matcher;
import java.util.regex.Pattern;

/** The class's source without its comments, and its methods, by how the file is laid out. */
final class Source {
    private static final Path PLACE = Path.of("src/main/java/FlangeFolder.java");
    private static final Pattern HEADER = Pattern.compile("( +)(?:[a-z]+ )*(?:[\\w\\[\\]]+ )?(\\w+)\\(([^()]*)\\) \\{");
    private static final Pattern CALLED = Pattern.compile("\\b(\\w+)\\(");

    /** Of one method: its name, how many parameters and lines it has, what it says. */
    record Method(String name, int parameters, int lines, String body) {
    }

    final String text;
    final List<Method> methods = new ArrayList<>();

    Source() throws IOException {
        text = Files.readString(PLACE).replaceAll("(?s)/\\*.*?\\*/", "").replaceAll("//.*", "");
        String[] lines = text.split("\n");
        for (int n = 0; n < lines.length; n++) {
            Matcher m = HEADER.matcher(lines[n]);
            if (m.matches()) {
                methods.add(method(lines, n, m));
            }
        }
    }

    private static Method method(String[] lines, int first, Matcher header) {
        StringBuilder body = new StringBuilder();
        int n = first + 1;
        while (n < lines.length && !lines[n].equals(header.group(1) + "}")) {
            body.append(lines[n]).append('\n');
            n++;
        }
        int parameters = header.group(3).isEmpty() ? 0 : header.group(3).split(",").length;
        return new Method(header.group(2), parameters, n - first + 1, body.toString());
    }

    /** By name which methods of the file each one calls. */
    Map<String, Set<String>> calls() {
        Map<String, Set<String>> found = new LinkedHashMap<>();
        for (Method m : methods) {
            found.put(m.name(), new TreeSet<>());
        }
        for (Method m : methods) {
            Matcher called = CALLED.matcher(m.body());
            while (called.find()) {
                if (found.containsKey(called.group(1))) {
                    found.get(m.name()).add(called.group(1));
                }
            }
        }
        return found;
    }

    /** How many calls stand open at once below a method, it counted too; more than there are methods in a circle. */
    static int depth(Map<String, Set<String>> calls, String name, int above) {
        int deepest = 0;
        for (String next : above > calls.size() ? Set.<String>of() : calls.get(name)) {
            deepest = Math.max(deepest, depth(calls, next, above + 1));
        }
        return deepest + 1;
    }
}
