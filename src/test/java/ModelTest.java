import java.util.Random;

/** Runs of chosen calls, the same each time, on the class and on the plain model side by side. */
public final class ModelTest {
    private static final int RUNS = 1000;
    private static final int CALLS = 300;
    /** A text of some 200 bytes may still be typed behind these; no object is used for more than 512 calls. */
    private static final int ROOM_FOR = 300;
    private static final int[] ODD = {Integer.MIN_VALUE, -1002, -2, -1, 0, 1, 2, 3, 4, 5, 6, 7, 10, 11, 20, 21,
        40, 41, 99, 100, 127, 128, Integer.MAX_VALUE};

    private final Random dice;
    private final int longest;
    private final FlangeFolder x = new FlangeFolder();
    private final FolderModel m = new FolderModel();

    private ModelTest(int seed) {
        dice = new Random(seed);
        longest = 1 + seed % 20;
    }

    public static void main(String[] args) {
        for (int seed = 0; seed < RUNS && Check.wrongSoFar() < 20; seed++) {
            new ModelTest(seed).run(seed);
        }
        Check.end();
    }

    private void run(int seed) {
        int before = Check.wrongSoFar();
        int start = Check.askedSoFar();
        for (int n = 0; n < CALLS && Check.wrongSoFar() == before && Check.askedSoFar() - start < ROOM_FOR; n++) {
            String name = "run " + seed + ", call " + n + ": ";
            if (dice.nextInt(12) == 0) {
                tell(name);
            } else if (dice.nextInt(3) > 0) {
                ask(name);
            } else {
                change(name);
            }
            if (n % 25 == 24) {
                Check.due(name + "digest()", x.digest(), m.digest());
            }
        }
    }

    /** A number of 0 to most - 1, now and then an odd one. */
    private int number(int most) {
        return dice.nextInt(25) == 0 ? ODD[dice.nextInt(ODD.length)] : dice.nextInt(most);
    }

    private int length() {
        return dice.nextInt(25) == 0 ? ODD[dice.nextInt(ODD.length)] : 1 + dice.nextInt(longest);
    }

    private int way() {
        return dice.nextInt(25) == 0 ? ODD[dice.nextInt(ODD.length)] : 1 - 2 * dice.nextInt(2);
    }

    private void change(String name) {
        int a = number(6);
        int b = number(3);
        switch (dice.nextInt(16)) {
            case 0:
                a = length();
                Check.due(name + "strip(" + a + ")", x.strip(a), m.strip(a));
                break;
            case 1: case 2: case 3: case 4: case 5:
                a = length();
                int w = way();
                Check.due(name + "bend(" + a + ", " + w + ", " + b + ")", x.bend(a, w, b), m.bend(a, w, b));
                break;
            case 6: case 7:
                a = number(1 + dice.nextInt(20));
                b = number(1 + dice.nextInt(40));
                Check.due(name + "press(" + a + ", " + b + ")", x.press(a, b), m.press(a, b));
                break;
            case 8:
                a = number(100);
                Check.due(name + "takes(" + b + ", " + a + ")", x.takes(b, a), m.takes(b, a));
                break;
            case 9: case 10: case 11: case 12:
                Check.due(name + "makes(" + a + ")", x.makes(a), m.makes(a));
                break;
            case 13:
                Check.due(name + "unmakes(" + a + ")", x.unmakes(a), m.unmakes(a));
                break;
            case 14:
                Check.due(name + "again()", x.again(), m.again());
                break;
            default:
                Check.due(name + "back()", x.back(), m.back());
                break;
        }
    }

    private void ask(String name) {
        int a = number(6);
        int b = number(4);
        switch (dice.nextInt(11)) {
            case 0:
                Check.due(name + "of(" + a + ", " + b + ")", x.of(a, b), m.of(a, b));
                break;
            case 1:
                a = number(8);
                b = number(2);
                Check.due(name + "joint(" + a + ", " + b + ")", x.joint(a, b), m.joint(a, b));
                break;
            case 2:
                Check.due(name + "box(" + b + ")", x.box(b), m.box(b));
                break;
            case 3: case 4:
                Check.due(name + "hits(" + a + ")", x.hits(a), m.hits(a));
                break;
            case 5:
                Check.due(name + "free()", x.free(), m.free());
                break;
            case 6:
                Check.due(name + "orders()", x.orders(), m.orders());
                break;
            case 7:
                b = number(2);
                Check.due(name + "order(" + a + ", " + b + ")", x.order(a, b), m.order(a, b));
                break;
            case 8:
                b = number(2);
                Check.due(name + "changes(" + b + ")", x.changes(b), m.changes(b));
                break;
            case 9:
                Check.due(name + "ways()", x.ways(), m.ways());
                break;
            default:
                a = number(11);
                Check.due(name + "count(" + a + ")", x.count(a), m.count(a));
                a = number(5);
                Check.due(name + "told(" + a + ")", x.told(a), m.told(a));
                break;
        }
    }

    private void tell(String name) {
        if (dice.nextInt(4) > 0) {
            Check.due(name + "clear()", x.clear(), m.clear());
        }
        String text = dice.nextInt(4) == 0 ? noise() : told();
        for (int n = 0; n < text.length(); n++) {
            int c = dice.nextInt(200) == 0 ? ODD[dice.nextInt(ODD.length)] : text.charAt(n);
            Check.due(name + "type(" + c + ")", x.type(c), m.type(c));
        }
        Check.due(name + "does() of '" + text + "'", x.does(), m.does());
    }

    private String noise() {
        StringBuilder s = new StringBuilder();
        String signs = "sbmupka;;;   0123456789\t/:";
        int n = dice.nextInt(10);
        for (int k = 0; k < n; k++) {
            s.append(signs.charAt(dice.nextInt(signs.length())));
        }
        return s.toString();
    }

    private String told() {
        StringBuilder s = new StringBuilder(blanks(0));
        int n = 1 + dice.nextInt(8);
        for (int k = 0; k < n; k++) {
            switch (dice.nextInt(9)) {
                case 0: order(s, "s", 1 + dice.nextInt(longest)); break;
                case 1: case 2: case 3:
                    order(s, "b", 1 + dice.nextInt(longest), dice.nextInt(2), dice.nextInt(3)); break;
                case 4: case 5: order(s, "m", dice.nextInt(6)); break;
                case 6: order(s, "u", dice.nextInt(6)); break;
                case 7: order(s, "p", dice.nextInt(21), dice.nextInt(41)); break;
                default:
                    if (dice.nextBoolean()) {
                        order(s, "k", dice.nextInt(3), dice.nextInt(100));
                    } else {
                        order(s, "a");
                    }
                    break;
            }
        }
        if (dice.nextInt(8) == 0) {
            s.setLength(dice.nextInt(s.length() + 1));
        }
        return s.toString();
    }

    private void order(StringBuilder s, String letter, int... numbers) {
        s.append(letter);
        for (int k = 0; k < numbers.length; k++) {
            s.append(blanks(k == 0 || dice.nextInt(60) == 0 ? 0 : 1));
            int v = dice.nextInt(40) == 0 ? dice.nextInt(130) : numbers[k];
            s.append(dice.nextInt(10) == 0 ? "0" : "").append(v);
        }
        s.append(blanks(0)).append(dice.nextInt(60) == 0 ? "" : ";").append(blanks(0));
    }

    private String blanks(int least) {
        return " ".repeat(least + (dice.nextInt(5) == 0 ? dice.nextInt(3) : 0));
    }
}
