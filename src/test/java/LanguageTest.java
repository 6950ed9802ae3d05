import java.io.IOException;
import java.lang.management.ManagementFactory;
import java.lang.reflect.Field;
import java.lang.reflect.Method;
import java.lang.reflect.Modifier;
import java.util.ArrayList;
import java.util.List;
import java.util.Map;
import java.util.Random;
import java.util.Set;
import java.util.TreeSet;
import java.util.regex.Matcher;
import java.util.regex.Pattern;

/** What LANGUAGE.md asks, rule by rule, as far as it shows from outside or in the source; rule 1 is FaceTest's. */
public final class LanguageTest {
    private static final String[] FORBIDDEN = {"\\bthrow\\b", "\\btry\\b", "\\bcatch\\b", "\\bsynchronized\\b",
        "\\bassert\\b", "->", "::", "\\bpackage\\b", "import (?!java\\.util\\.Arrays;)", "static \\{",
        "\\bprotected\\b", "\\bequals\\b", "\\bhashCode\\b", "\\btoString\\b"};
    private static final Set<String> LIBRARY = Set.of("Arrays.fill", "System.arraycopy", "Math.min", "Math.max",
            "Integer.bitCount");
    private static final Pattern OF_A_CLASS = Pattern.compile("\\b([A-Z]\\w*[a-z]\\w*)\\.(\\w+)");
    private static final Pattern LOOP = Pattern.compile("\\bwhile \\((.*)\\) \\{|\\bfor \\([^;]*;([^;]*);.*\\) \\{");
    private static final int[] NUMBERS = {Integer.MIN_VALUE, -1002, -1, 0, 1, 2, 3, 5, 6, 7, 8, 10, 11, 20, 21, 31,
        32, 40, 41, 99, 100, 120, 127, 128, Integer.MAX_VALUE};
    private static final int ROOM_ELEMENTS = 7_300_000;

    private LanguageTest() {
    }

    public static void main(String[] args) throws IOException {
        Source source = new Source();
        classesAndFields();
        words(source);
        neverThrows();
        neitherCirclesNorDepth(source);
        loopsEnd(source);
        sizes(source);
        callsMakeNothing(source);
        objectsAreSmall();
        Check.end();
    }

    private static List<Class<?>> allClasses() {
        List<Class<?>> all = new ArrayList<>(List.of(FlangeFolder.class.getDeclaredClasses()));
        all.add(FlangeFolder.class);
        return all;
    }

    private static Set<String> classNames() {
        Set<String> names = new TreeSet<>();
        for (Class<?> c : allClasses()) {
            names.add(c.getSimpleName());
        }
        return names;
    }

    private static void classesAndFields() {
        Check.isFor("rules 2, 3, 5, 11: ");
        Check.holds("at most twelve classes", allClasses().size() <= 12);
        for (Class<?> c : allClasses()) {
            int is = c.getModifiers();
            Check.holds("static and not public: " + c,
                    c == FlangeFolder.class || Modifier.isStatic(is) && !Modifier.isPublic(is));
            Check.holds("no class inside a class inside: " + c,
                    c == FlangeFolder.class || c.getDeclaredClasses().length == 0);
            int own = 0;
            for (Field f : c.getDeclaredFields()) {
                boolean fixed = Modifier.isStatic(f.getModifiers());
                own += fixed ? 0 : 1;
                Check.holds("a type of the rules: " + f, fixed ? isConstantType(f.getType()) : isType(f.getType()));
                Check.holds("final, if static: " + f, !fixed || Modifier.isFinal(f.getModifiers()));
            }
            Check.holds("at most twenty fields: " + c, own <= 20);
        }
    }

    private static boolean isConstantType(Class<?> c) {
        return Set.of(int.class, long.class, boolean.class, char.class, String.class, int[].class, long[].class,
                char[].class, byte[].class).contains(c);
    }

    private static boolean isType(Class<?> c) {
        return c.isPrimitive() || allClasses().contains(c) || c.isArray() && isType(c.getComponentType());
    }

    private static void words(Source source) {
        Check.isFor("rules 2, 4, 6, 13: ");
        for (String word : FORBIDDEN) {
            Check.holds("without " + word, !Pattern.compile(word).matcher(source.text).find());
        }
        Check.holds("signs 1 to 127 alone", source.text.chars().allMatch(c -> c >= 1 && c <= 127));
        Set<String> inside = classNames();
        Matcher m = OF_A_CLASS.matcher(source.text);
        while (m.find()) {
            Check.holds("of the library: " + m.group(),
                    inside.contains(m.group(1)) || LIBRARY.contains(m.group()));
        }
    }

    /** Any numbers in any state, also behind the 512th call: what the answers are is no matter here. */
    private static void neverThrows() {
        Check.isFor("rule 7: ");
        List<Method> calls = new ArrayList<>();
        for (Method m : FlangeFolder.class.getDeclaredMethods()) {
            if (Modifier.isPublic(m.getModifiers())) {
                calls.add(m);
            }
        }
        calls.sort((a, b) -> a.getName().compareTo(b.getName()));
        Random dice = new Random(7);
        for (int run = 0; run < 20; run++) {
            FlangeFolder x = new FlangeFolder();
            for (int n = 0; n < 3000; n++) {
                answers(x, calls.get(dice.nextInt(calls.size())), dice);
                answers(x, calls.get(dice.nextInt(calls.size())), dice);
                x.bend(1 + dice.nextInt(3), 1 - 2 * dice.nextInt(2), dice.nextInt(3));
                x.makes(dice.nextInt(6));
                x.type("sbmupka;;; 0123456789".charAt(dice.nextInt(21)));
            }
        }
    }

    private static void answers(FlangeFolder x, Method call, Random dice) {
        Object[] numbers = new Object[call.getParameterCount()];
        for (int k = 0; k < numbers.length; k++) {
            numbers[k] = dice.nextInt(20) == 0 ? dice.nextInt() : NUMBERS[dice.nextInt(NUMBERS.length)];
        }
        try {
            call.invoke(x, numbers);
        } catch (ReflectiveOperationException e) {
            Check.holds(call.getName() + List.of(numbers) + " throws nothing: " + e.getCause(), false);
        }
    }

    /** By their names, which are therefore all other. */
    private static void neitherCirclesNorDepth(Source source) {
        Check.isFor("rules 8, 11: ");
        Set<String> names = new TreeSet<>();
        for (Source.Method m : source.methods) {
            Check.holds("the only one of its name: " + m.name(), names.add(m.name()));
        }
        Map<String, Set<String>> calls = source.calls();
        for (String name : names) {
            int deep = Source.depth(calls, name, 1);
            Check.holds(name + " goes at most eight deep: " + deep, deep <= 8);
        }
    }

    private static void loopsEnd(Source source) {
        Check.isFor("rule 9: ");
        Matcher m = LOOP.matcher(source.text);
        int found = 0;
        while (m.find()) {
            String bound = m.group(1) == null ? m.group(2) : m.group(1);
            Check.holds("a bound: " + m.group(), bound.contains(" < ") || bound.contains(" <= ")
                    || bound.contains(" >= "));
            found++;
        }
        Check.due("every loop is looked at", found, source.text.split("\\b(while|for) \\(", -1).length - 1);
        Check.holds("none ends in its last line", !source.text.contains(" do {"));
    }

    private static void sizes(Source source) {
        Check.isFor("rule 11: ");
        int declared = 0;
        for (Class<?> c : allClasses()) {
            declared += c.getDeclaredMethods().length + c.getDeclaredConstructors().length;
        }
        Check.due("every method is looked at", source.methods.size(), declared);
        for (Source.Method m : source.methods) {
            Check.holds(m.name() + " has " + m.parameters() + " parameters", m.parameters() <= 7);
            Check.holds(m.name() + " has " + m.lines() + " lines", m.lines() <= 60);
        }
    }

    /** All calls of a run live in one room: what there is, is made by constructors, and calls make nothing. */
    private static void callsMakeNothing(Source source) {
        Check.isFor("rule 12: ");
        Set<String> inside = classNames();
        for (Source.Method m : source.methods) {
            Check.holds(m.name() + " makes nothing",
                    inside.contains(m.name()) || !Pattern.compile("\\bnew\\b|\\{ *-?\\d").matcher(m.body()).find());
        }
    }

    /** Four thousand fit into the room, if each of their fields and elements has four bytes, as here. */
    private static void objectsAreSmall() {
        com.sun.management.ThreadMXBean meter =
                (com.sun.management.ThreadMXBean) ManagementFactory.getThreadMXBean();
        long id = Thread.currentThread().getId();
        FlangeFolder[] all = new FlangeFolder[1000];
        long before = meter.getThreadAllocatedBytes(id);
        for (int n = 0; n < all.length; n++) {
            all[n] = new FlangeFolder();
        }
        long each = (meter.getThreadAllocatedBytes(id) - before) / all.length;
        Check.holds("bytes of an object: " + each, 4000 * each <= 4L * ROOM_ELEMENTS);
    }
}
