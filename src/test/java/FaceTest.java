import java.lang.reflect.Constructor;
import java.lang.reflect.Field;
import java.lang.reflect.Method;
import java.lang.reflect.Modifier;
import java.util.Set;
import java.util.TreeSet;
import java.util.regex.Matcher;
import java.util.regex.Pattern;

/** The document's first pages: 'What it is' in one run of calls, and 'The public face' as it is printed there. */
public final class FaceTest {
    private static final String SUMMARY = "What it is";
    private static final String FACE = "The public face";
    private static final Pattern METHOD = Pattern.compile("public (\\w+) (\\w+)\\(([^)]*)\\);");
    private static final Pattern CONSTANT = Pattern.compile("([A-Z]+) = (-?\\d+)");

    private FaceTest() {
    }

    public static void main(String[] args) throws IllegalAccessException {
        summary();
        most();
        Document.isTestedWhole(SUMMARY);
        Check.isFor(FACE + ": ");
        theClass();
        constants();
        methods();
        Check.end();
    }

    private static void says(String words) {
        Document.says(SUMMARY, words);
    }

    private static void due(String call, long got, long want) {
        Check.due(call, got, want);
    }

    /** A channel with a lip, the lip (bend 2) not to be made behind both others. */
    private static void summary() {
        FlangeFolder x = new FlangeFolder();
        says("FLANGES 0 on, each with a LENGTH (1 ..");
        due("strip(0)", x.strip(0), Check.BAD);
        due("strip(1)", x.strip(1), 1);
        due("strip(6)", x.strip(6), 1);
        says("A sheet bent flange by flange: a strip of flanges told with its bends, their ways, their tools;");
        int[][] told = {{6, 1, 0}, {6, 1, 0}, {2, 1, 1}};
        for (int i = 0; i < told.length; i++) {
            due("bend() " + i, x.bend(told[i][0], told[i][1], told[i][2]), i);
            for (int what = 0; what < 3; what++) {
                due("of(" + i + ", " + what + ")", x.of(i, what), told[i][what]);
            }
        }
        orders(x);
        press(x);
        shape(x);
        text(x);
    }

    private static void orders(FlangeFolder x) {
        says("orders of all bends that hit nothing, how many, the first, the one with the fewest changes of tools;");
        due("orders()", x.orders(), 4);
        int[][] rows = {{0, 2, 1}, {2, 0, 1}};
        for (int what = 0; what < 2; what++) {
            for (int k = 0; k < 3; k++) {
                due("order(" + k + ", " + what + ")", x.order(k, what), rows[what][k]);
            }
        }
        due("changes(0)", x.changes(0), 1);
        due("changes(1)", x.changes(1), 2);
        says("what length of blank is due, by what each bend takes;");
        due("count(8)", x.count(8), 200 - 3 - 3 - 5);
    }

    private static void press(FlangeFolder x) {
        says("which bends may be made, by what the press has below and above them, by what the sheet is then;");
        due("free()", x.free(), 7);
        due("makes(0)", x.makes(0), 1);
        due("makes(1)", x.makes(1), 2);
        due("hits(2), above", x.hits(2), 2);
        due("makes(2)", x.makes(2), Check.NO);
        due("free() with bends 0 and 1 made", x.free(), 0);
        due("press(2, 5)", x.press(2, 5), 208);
        due("hits(2), nothing is so low", x.hits(2), 0);
        due("press(2, 8)", x.press(2, 8), 205);
        FlangeFolder z = Check.folder(6, 2, 1, 6, -1);
        Check.makes(z, 0);
        due("hits(1), below", z.hits(1), 1);
        due("press(0, 8)", z.press(0, 8), 208);
        due("hits(1), nothing is so near", z.hits(1), 0);
        says("bends unmade;");
        due("unmakes(1)", x.unmakes(1), 1);
        due("makes(2)", x.makes(2), 2);
        due("makes(1)", x.makes(1), 3);
    }

    private static void shape(FlangeFolder x) {
        says("shapes on a grid, joint by joint, boxes;");
        int[][] joints = {{0, 0}, {6, 0}, {6, 6}, {0, 6}, {0, 4}};
        for (int k = 0; k < joints.length; k++) {
            due("joint(" + k + ", 0)", x.joint(k, 0), joints[k][0]);
            due("joint(" + k + ", 1)", x.joint(k, 1), joints[k][1]);
        }
        int[] box = {0, 0, 6, 6};
        for (int what = 0; what < 4; what++) {
            due("box(" + what + ")", x.box(what), box[what]);
        }
    }

    private static void text(FlangeFolder x) {
        says("told in a text, taken back.");
        Check.does(x, "a; s5;", 2);
        due("count(10) behind the text", x.count(10), 5);
        due("back()", x.back(), 4);
        due("count(2), all made again", x.count(2), 7);
    }

    /** Every call may be a refused one, or leave a state. */
    private static void most() {
        says("An object is used for at most 512 calls after it has been made;");
        FlangeFolder x = new FlangeFolder();
        for (int n = 0; n < 510; n++) {
            x.count(11);
        }
        due("told(0) as the 511th call", x.told(0), 510);
        due("count(10) as the 512th call", x.count(10), 5);
        FlangeFolder y = new FlangeFolder();
        for (int n = 0; n < 508; n++) {
            y.strip(1 + n % 20);
        }
        due("told(4) as the 509th call", y.told(4), 5);
        due("back() as the 510th call", y.back(), 4);
        due("back() as the 511th call", y.back(), 3);
        due("count(10) as the 512th call", y.count(10), 1 + 505 % 20);
        says("what later calls answer is free.");
        y.digest();
    }

    private static void theClass() {
        int made = FlangeFolder.class.getModifiers();
        Check.holds("the document's class", Document.textOf(FACE).contains("public final class FlangeFolder {"));
        Check.holds("a public final class", Modifier.isPublic(made) && Modifier.isFinal(made));
        Constructor<?>[] all = FlangeFolder.class.getDeclaredConstructors();
        Check.holds("the document's constructor", Document.textOf(FACE).contains("public FlangeFolder();"));
        Check.holds("one public constructor", all.length == 1 && Modifier.isPublic(all[0].getModifiers())
                && all[0].getParameterCount() == 0);
    }

    private static void constants() throws IllegalAccessException {
        Set<String> told = new TreeSet<>();
        Matcher m = CONSTANT.matcher(Document.textOf(FACE));
        while (m.find()) {
            told.add("int " + m.group());
        }
        Set<String> found = new TreeSet<>();
        for (Field f : FlangeFolder.class.getDeclaredFields()) {
            int is = f.getModifiers();
            if (Modifier.isPublic(is) && Modifier.isStatic(is) && Modifier.isFinal(is)) {
                found.add(f.getType() + " " + f.getName() + " = " + f.get(null));
            } else {
                Check.holds("private: " + f, Modifier.isPrivate(is));
            }
        }
        same("constants", found, told);
    }

    private static void methods() {
        Set<String> told = new TreeSet<>();
        Set<String> names = new TreeSet<>();
        Matcher m = METHOD.matcher(Document.textOf(FACE));
        while (m.find()) {
            String types = m.group(3).replaceAll("(\\w+) \\w+", "$1").replace(", ", ",");
            told.add(m.group(1) + " " + m.group(2) + "(" + types + ")");
            names.add(m.group(2));
        }
        Set<String> found = new TreeSet<>();
        for (Method is : FlangeFolder.class.getDeclaredMethods()) {
            if (Modifier.isPublic(is.getModifiers())) {
                found.add(is.getReturnType() + " " + is.toString().replaceAll(".*FlangeFolder\\.", ""));
                Check.holds("not static: " + is, !Modifier.isStatic(is.getModifiers()));
            } else {
                Check.holds("private: " + is, Modifier.isPrivate(is.getModifiers()));
                Check.holds("a name of its own: " + is, !names.contains(is.getName()));
            }
        }
        for (Class<?> inside : FlangeFolder.class.getDeclaredClasses()) {
            for (Method is : inside.getDeclaredMethods()) {
                Check.holds("a name of its own: " + is, !names.contains(is.getName()));
            }
        }
        same("methods", found, told);
        Check.holds("23 methods are told", told.size() == 23);
    }

    private static void same(String what, Set<String> found, Set<String> told) {
        Check.holds("the public " + what + " are " + found + ", the document tells " + told, found.equals(told));
    }
}
