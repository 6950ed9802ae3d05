/** What the tests share: answers compared, texts typed, the end with an exit code. */
final class Check {
    private static int wrong = 0;
    private static int asked = 0;

    private Check() {
    }

    static void due(String call, long got, long want) {
        asked++;
        if (got != want) {
            wrong++;
            System.out.println(call + " answered " + got + ", due is " + want);
        }
    }

    static void holds(String what, boolean is) {
        due(what, is ? 1 : 0, 1);
    }

    /** The text becomes this one; what the calls answer is looked at, too. */
    static void types(FlangeFolder x, String text) {
        x.clear();
        for (int n = 0; n < text.length(); n++) {
            due("type(" + (int) text.charAt(n) + ")", x.type(text.charAt(n)), n + 1);
        }
    }

    /** does() of a text. */
    static void does(FlangeFolder x, String text, int want) {
        types(x, text);
        due("does() of '" + text + "'", x.does(), want);
    }

    static int wrongSoFar() {
        return wrong;
    }

    static void end() {
        System.out.println(wrong == 0 ? asked + " answers are as due" : wrong + " of " + asked + " are not as due");
        if (wrong != 0) {
            System.exit(1);
        }
    }
}
