/** What the tests share: answers compared, strips told, texts typed, the end with an exit code. */
final class Check {
    static final int NONE = -1000, BAD = -1001, NO = -1002, FULL = -1003;

    private static final int MOST_STATES = 5;

    private static int wrong = 0;
    private static int asked = 0;
    private static String sentence = "";

    private Check() {
    }

    /** One call of the class. */
    interface Call {
        int on(FlangeFolder x);
    }

    /** Told ahead of each answer that is not as due, until another comes. */
    static void isFor(String words) {
        sentence = words;
    }

    static void due(String call, long got, long want) {
        asked++;
        if (got != want) {
            wrong++;
            System.out.println(sentence + call + " answered " + got + ", due is " + want);
        }
    }

    static void holds(String what, boolean is) {
        due(what, is ? 1 : 0, 1);
    }

    /** A strip told by LENGTHS and, for each BEND, its WAY; all TOOLS 0; a state each. */
    static FlangeFolder folder(int first, int... lengthsAndWays) {
        FlangeFolder x = new FlangeFolder();
        x.strip(first);
        for (int n = 0; n < lengthsAndWays.length; n += 2) {
            x.bend(lengthsAndWays[n], lengthsAndWays[n + 1], 0);
        }
        return x;
    }

    /** Its bends, of these TOOLS, can be made in any row under a press of 0, 0, and that is the press. */
    static FlangeFolder anyRow(int... tools) {
        int[] lengths = {4, 12, 13, 16, 7, 4};
        int[] ways = {-1, -1, 1, -1, -1, -1};
        FlangeFolder x = new FlangeFolder();
        x.strip(9);
        for (int i = 0; i < tools.length; i++) {
            x.bend(lengths[i], ways[i], tools[i]);
        }
        x.press(0, 0);
        return x;
    }

    static FlangeFolder sixBends() {
        return anyRow(0, 0, 0, 0, 0, 0);
    }

    /** Bends made one behind the other; each has to be. */
    static void makes(FlangeFolder x, int... bends) {
        int made = x.count(1);
        for (int i : bends) {
            made++;
            due("makes(" + i + ") ahead of the test", x.makes(i), made);
        }
    }

    /** The call is refused, by this answer, and nothing becomes other but how often that was. */
    static void refused(String name, FlangeFolder x, int why, Call call) {
        int values = valuesOfDigest(x);
        long before = x.digest();
        due(name, call.on(x), why);
        long once = power(values - 1 - (BAD - why));
        due(name + ": by digest(), how often refused alone is other", x.digest() - before, once);
    }

    /** The call answers this and leaves a STATE, by which all is again as it was. */
    static void leaves(String name, FlangeFolder x, int want, Call call) {
        int values = valuesOfDigest(x);
        int states = x.told(4);
        long before = x.digest();
        due(name, call.on(x), want);
        due(name + ": STATES", x.told(4), Math.min(MOST_STATES, states + 1));
        due(name + ": back()", x.back(), Math.min(MOST_STATES - 1, states));
        long lost = states == MOST_STATES ? power(values - 5) : 0;
        due(name + ": by digest(), all is as it was", x.digest(), before - lost);
    }

    /** The call answers this, leaves no STATE and changes nothing. */
    static void onlyTells(String name, FlangeFolder x, int want, Call call) {
        long before = x.digest();
        due(name, call.on(x), want);
        due(name + ": by digest(), nothing is other", x.digest(), before);
    }

    private static int valuesOfDigest(FlangeFolder x) {
        return 30 + 6 * x.count(0);
    }

    private static long power(int n) {
        long p = 1;
        for (int k = 0; k < n; k++) {
            p *= 31;
        }
        return p;
    }

    /** The text becomes this one; what the calls answer is looked at, too. */
    static void types(FlangeFolder x, String text) {
        x.clear();
        for (int n = 0; n < text.length(); n++) {
            due("type(" + (int) text.charAt(n) + ")", x.type(text.charAt(n)), n + 1);
        }
    }

    /** does() of a text. */
    static void does(FlangeFolder x, String text, int want) {
        types(x, text);
        due("does() of '" + text + "'", x.does(), want);
    }

    static int wrongSoFar() {
        return wrong;
    }

    static int askedSoFar() {
        return asked;
    }

    static void end() {
        System.out.println(wrong == 0 ? asked + " answers are as due" : wrong + " of " + asked + " are not as due");
        if (wrong != 0) {
            System.exit(1);
        }
    }
}
