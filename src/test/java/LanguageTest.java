import java.io.IOException;
import java.lang.management.ManagementFactory;
import java.lang.reflect.Constructor;
import java.lang.reflect.Field;
import java.lang.reflect.Method;
import java.lang.reflect.Modifier;
import java.nio.file.Files;
import java.nio.file.Path;
import java.util.Set;
import java.util.TreeSet;
import java.util.regex.Pattern;

/** What LANGUAGE.md asks and can be seen from outside: the face, words that may not stand, what calls make. */
public final class LanguageTest {
    private static final Set<String> FACE = Set.of(
            "int strip(int)", "int bend(int,int,int)", "int press(int,int)", "int takes(int,int)", "int makes(int)",
            "int unmakes(int)", "int again()", "int of(int,int)", "int joint(int,int)", "int box(int)",
            "int hits(int)", "int free()", "int orders()", "int order(int,int)", "int changes(int)", "int ways()",
            "int count(int)", "int type(int)", "int clear()", "int does()", "int back()", "int told(int)",
            "long digest()");
    private static final Set<String> CONSTANTS = Set.of("NONE", "BAD", "NO", "FULL");
    private static final String[] FORBIDDEN = {"\\bthrow\\b", "\\btry\\b", "\\bcatch\\b", "\\bsynchronized\\b",
        "\\bassert\\b", "->", "::", "Exact\\b", "\\bpackage\\b", "import (?!java\\.util\\.Arrays;)", "static \\{",
        "\\bSystem\\.(?!arraycopy)", "\\bprotected\\b"};

    private LanguageTest() {
    }

    public static void main(String[] args) throws IOException {
        face();
        words();
        callsMakeNothing();
        Check.end();
    }

    private static void face() {
        Set<String> found = new TreeSet<>();
        for (Method m : FlangeFolder.class.getDeclaredMethods()) {
            if (Modifier.isPublic(m.getModifiers())) {
                found.add(m.getReturnType() + " " + m.toString().replaceAll(".*FlangeFolder\\.", ""));
            } else {
                Check.holds("private: " + m, Modifier.isPrivate(m.getModifiers()));
                Check.holds("a name of its own: " + m,
                        FACE.stream().noneMatch(f -> f.contains(" " + m.getName() + "(")));
            }
        }
        Check.holds("the public methods " + found, found.equals(new TreeSet<>(FACE)));
        for (Field f : FlangeFolder.class.getDeclaredFields()) {
            boolean isConstant = CONSTANTS.contains(f.getName());
            Check.holds("field: " + f, Modifier.isPublic(f.getModifiers()) == isConstant
                    && Modifier.isPrivate(f.getModifiers()) != isConstant);
            Check.holds("static and not final: " + f,
                    !Modifier.isStatic(f.getModifiers()) || Modifier.isFinal(f.getModifiers()));
        }
        Constructor<?>[] made = FlangeFolder.class.getDeclaredConstructors();
        Check.holds("one public constructor", made.length == 1 && Modifier.isPublic(made[0].getModifiers())
                && made[0].getParameterCount() == 0);
        Check.holds("a final class", Modifier.isFinal(FlangeFolder.class.getModifiers()));
        for (Class<?> c : FlangeFolder.class.getDeclaredClasses()) {
            Check.holds("static: " + c, Modifier.isStatic(c.getModifiers()));
        }
    }

    private static void words() throws IOException {
        String source = Files.readString(Path.of("src/main/java/FlangeFolder.java"));
        for (String word : FORBIDDEN) {
            Check.holds("without " + word, !Pattern.compile(word).matcher(source).find());
        }
        Check.holds("signs 1 to 127 alone", source.chars().allMatch(c -> c >= 1 && c <= 127));
    }

    /** All calls of a run live in one room, so that the dearest calls, too, make no object at all. */
    private static void callsMakeNothing() {
        com.sun.management.ThreadMXBean meter =
                (com.sun.management.ThreadMXBean) ManagementFactory.getThreadMXBean();
        long id = Thread.currentThread().getId();
        FlangeFolder x = new FlangeFolder();
        dearCalls(x);
        long before = meter.getThreadAllocatedBytes(id);
        for (int n = 0; n < 100; n++) {
            dearCalls(x);
        }
        long perRound = (meter.getThreadAllocatedBytes(id) - before) / 100;
        Check.holds("bytes made by a round of calls: " + perRound, perRound < 100);
    }

    private static void dearCalls(FlangeFolder x) {
        x.strip(9);
        x.bend(4, -1, 0);
        x.bend(12, -1, 1);
        x.bend(13, 1, 2);
        x.bend(16, -1, 0);
        x.bend(7, -1, 1);
        x.bend(4, -1, 2);
        x.press(0, 0);
        x.makes(2);
        x.type('a');
        x.type(';');
        x.does();
        x.digest();
        x.back();
        x.order(5, 1);
        x.clear();
    }
}
