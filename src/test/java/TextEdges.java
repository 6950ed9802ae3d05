import java.math.BigInteger;

/** Promises 19 to 24: texts, states and the digest, sentence by sentence. */
final class TextEdges {
    private static final int LEAST = Integer.MIN_VALUE;
    private static final int MOST = Integer.MAX_VALUE;

    private TextEdges() {
    }

    static void run() {
        type();
        typeRefused();
        clear();
        does();
        doesFaults();
        doesEndsAll();
        back();
        told();
        toldRefused();
        digest();
        digestOfMany();
    }

    private static void says(int promise, String words) {
        Document.says("Promise " + promise, words);
    }

    private static void due(String call, long got, long want) {
        Check.due(call, got, want);
    }

    private static FlangeFolder typed(String text) {
        FlangeFolder x = new FlangeFolder();
        Check.types(x, text);
        return x;
    }

    private static void type() {
        says(19, "A byte (0 .. 127) comes behind THE TEXT: how many it has.");
        FlangeFolder x = new FlangeFolder();
        due("type(0)", x.type(0), 1);
        due("type(127)", x.type(127), 2);
        due("type(1)", x.type(1), 3);
        due("type(126)", x.type(126), 4);
        due("told(3)", x.told(3), 4);
        FlangeFolder y = typed("s");
        due("type('9')", y.type('9'), 2);
        due("type(';')", y.type(';'), 3);
        due("does(): they are behind one another", y.does(), 1);
        due("count(10)", y.count(10), 9);
    }

    private static void typeRefused() {
        says(19, "BAD;");
        FlangeFolder x = typed("a;");
        for (int c : new int[] {-1, 128, 255, 256, LEAST, MOST}) {
            Check.refused("type(" + c + ")", x, Check.BAD, y -> y.type(c));
        }
        says(19, "FULL: 120.");
        FlangeFolder full = typed(" ".repeat(119));
        due("the 120th", full.type('a'), 120);
        for (int c : new int[] {0, 59, 127}) {
            Check.refused("the 121st", full, Check.FULL, y -> y.type(c));
        }
        due("does(): the 120 are as they were", full.does(), -130);
        full.clear();
        due("type() behind clear()", full.type('a'), 1);
    }

    private static void clear() {
        says(20, "THE TEXT is empty: how many it had.");
        due("of none", new FlangeFolder().clear(), 0);
        FlangeFolder x = typed("a");
        due("of one", x.clear(), 1);
        due("once more", x.clear(), 0);
        due("told(3)", x.told(3), 0);
        due("does() of none", x.does(), -10);
        FlangeFolder full = typed("a;".repeat(60));
        due("of 120", full.clear(), 120);
        Check.does(full, "s9;", 1);
        due("nothing of the old text is behind the new", full.count(10), 9);
        due("told(4)", full.told(4), 1);
    }

    private static void does() {
        says(21, "What THE TEXT tells is done (THE TEXT stays): how many.");
        FlangeFolder one = typed("a;");
        due("the fewest", one.does(), 1);
        due("told(3): THE TEXT stays", one.told(3), 2);
        FlangeFolder most = typed("a;".repeat(60));
        due("the most", most.does(), 60);
        due("told(3): THE TEXT stays", most.told(3), 120);
        FlangeFolder x = typed("s1;b1 0 0;b1 0 0;b1 0 0;b1 0 0;b1 0 0;b1 0 0;");
        due("all that there is room for", x.does(), 7);
        due("count(0)", x.count(0), 6);
        due("once more, THE TEXT stays", x.does(), 7);
        FlangeFolder y = typed("b9 1 2;");
        for (int n = 1; n <= 6; n++) {
            due("done again", y.does(), 1);
            due("count(0)", y.count(0), n);
        }
        due("done again when it is full", y.does(), -2000);
        says(21, "S (one STATE for all).");
        Check.leaves("does() of 60", typed("a;".repeat(60)), 60, FlangeFolder::does);
        FlangeFolder z = typed("s1;s2;s3;s4;s5;s6;s7;");
        z.strip(20);
        Check.leaves("does() of more than STATES there are", z, 7, FlangeFolder::does);
        due("count(10) behind back()", z.count(10), 20);
    }

    private static void doesFaults() {
        says(21, "-10 less the FAULT (no S)");
        Check.onlyTells("the least FAULT", typed(""), -10, FlangeFolder::does);
        Check.onlyTells("a FAULT at 0", typed("q"), -10, FlangeFolder::does);
        Check.onlyTells("a FAULT at 1", typed("a1;"), -11, FlangeFolder::does);
        Check.onlyTells("a FAULT at 119", typed("a;".repeat(59) + "aa"), -129, FlangeFolder::does);
        Check.onlyTells("the greatest FAULT", typed("a;".repeat(59) + "a "), -130, FlangeFolder::does);
        FlangeFolder x = typed("s9;s");
        x.strip(8);
        Check.onlyTells("with a STATE", x, -14, FlangeFolder::does);
        due("back()", x.back(), 0);
        due("count(10)", x.count(10), 5);
    }

    private static void doesEndsAll() {
        says(21, "-2000 less the number (0 on) of that which ends all (no S).");
        Check.onlyTells("the first of one", typed("m0;"), -2000, FlangeFolder::does);
        Check.onlyTells("the second of three", typed("s9;s0;s8;"), -2001, FlangeFolder::does);
        Check.onlyTells("the last there can be", typed("a;".repeat(58) + "m0;"), -2058, FlangeFolder::does);
        Check.onlyTells("the first that is refused", typed("s9;s0;m0;"), -2001, FlangeFolder::does);
        FlangeFolder x = typed("s9;k0 0;p0 0;m0;");
        x.strip(8);
        Check.onlyTells("with a STATE", x, -2003, FlangeFolder::does);
        due("back()", x.back(), 0);
        due("count(10)", x.count(10), 5);
    }

    private static void back() {
        says(22, "A STATE back: how many can be yet.");
        FlangeFolder x = new FlangeFolder();
        for (int l = 11; l <= 19; l++) {
            x.strip(l);
        }
        for (int left = 4; left >= 0; left--) {
            due("back()", x.back(), left);
            due("count(10)", x.count(10), 14 + left);
            due("told(4)", x.told(4), left);
        }
        FlangeFolder y = new FlangeFolder();
        y.strip(9);
        due("back() of one", y.back(), 0);
        y.strip(8);
        y.strip(7);
        due("back() of two", y.back(), 1);
        due("count(10)", y.count(10), 8);
        y.bend(4, 1, 0);
        due("back() of a BEND", y.back(), 1);
        due("back() of a strip", y.back(), 0);
        due("count(10) as at first", y.count(10), 5);
        says(22, "NO: none.");
        Check.refused("back() of none at first", new FlangeFolder(), Check.NO, FlangeFolder::back);
        Check.refused("back() of none any more", y, Check.NO, FlangeFolder::back);
        Check.refused("back() of older ones, lost", x, Check.NO, FlangeFolder::back);
        x.strip(3);
        due("back() behind a refused one", x.back(), 0);
    }

    private static void told() {
        says(23, "How often refused: BAD (0), NO (1), FULL (2); bytes of THE TEXT (3), STATES (4).");
        FlangeFolder x = new FlangeFolder();
        for (int what = 0; what <= 4; what++) {
            due("new: told(" + what + ")", x.told(what), 0);
        }
        for (int n = 0; n < 6; n++) {
            x.bend(20, 1, 0);
        }
        for (int n = 0; n < 3; n++) {
            x.bend(20, 1, 0);
        }
        for (int n = 0; n < 4; n++) {
            x.unmakes(0);
        }
        for (int n = 0; n < 7; n++) {
            x.unmakes(6);
        }
        Check.types(x, "a".repeat(120));
        int[] dues = {7, 4, 3, 120, 5};
        for (int what = 0; what <= 4; what++) {
            due("told(" + what + ")", x.told(what), dues[what]);
        }
    }

    private static void toldRefused() {
        says(23, "BAD.");
        FlangeFolder x = typed("a;");
        int n = 0;
        for (int what : new int[] {-1, 5, 6, 8, LEAST, MOST}) {
            Check.refused("told(" + what + ")", x, Check.BAD, y -> y.told(what));
            n++;
            due("told(0): its own refusals, too", x.told(0), n);
        }
    }

    private static void digest() {
        says(24, "h = 2934; then h = 31 h + v for each v: told(0) to told(4); count(0) to count(10);"
                + " LENGTH of FLANGE 0; of each BEND of(0) to of(3); of each JOINT its x, y; box(0) to box(3);"
                + " free(); orders(); changes(0), changes(1); ways().");
        mixed("new", new FlangeFolder(), 5);
        FlangeFolder six = Check.sixBends();
        mixed("six BENDS", six, 9);
        Check.makes(six, 0, 1, 2, 3, 4, 5);
        mixed("six MADE", six, 9);
        mixed("no ORDER, NONE twice", Check.folder(3, 1, 1, 3, -1), 3);
        FlangeFolder x = new FlangeFolder();
        x.strip(1);
        x.bend(4, 1, 2);
        x.bend(3, 1, 2);
        x.bend(3, -1, 0);
        x.press(2, 4);
        Check.makes(x, 2);
        x.takes(2, 99);
        x.unmakes(0);
        x.strip(0);
        Check.types(x, "s9;");
        mixed("BEST not the FIRST", x, 1);
        x.back();
        mixed("behind back()", x, 1);
    }

    /** Every value by its own call; the sum in numbers without end, brought to 64 bits only then. */
    private static void mixed(String name, FlangeFolder x, int first) {
        long got = x.digest();
        BigInteger h = BigInteger.valueOf(2934);
        for (int what = 0; what <= 4; what++) {
            h = with(h, x.told(what));
        }
        for (int what = 0; what <= 10; what++) {
            h = with(h, x.count(what));
        }
        h = with(h, first);
        int bends = x.count(0);
        for (int i = 0; i < bends; i++) {
            for (int what = 0; what <= 3; what++) {
                h = with(h, x.of(i, what));
            }
        }
        for (int k = 0; k <= bends + 1; k++) {
            h = with(with(h, x.joint(k, 0)), x.joint(k, 1));
        }
        for (int what = 0; what <= 3; what++) {
            h = with(h, x.box(what));
        }
        h = with(with(h, x.free()), x.orders());
        h = with(with(h, x.changes(0)), x.changes(1));
        due(name + ": digest()", got, with(h, x.ways()).longValue());
        due(name + ": digest() once more, nothing is other by it", x.digest(), got);
    }

    private static BigInteger with(BigInteger h, int v) {
        return h.multiply(BigInteger.valueOf(31)).add(BigInteger.valueOf(v));
    }

    /** The longest row of values, and the least and greatest that BLANK can be. */
    private static void digestOfMany() {
        for (int l = 1; l <= 20; l += 19) {
            FlangeFolder x = Check.folder(l, l, 1, l, -1, l, 1, l, -1, l, 1, l, -1);
            x.takes(0, l == 1 ? 99 : 0);
            x.press(0, 40);
            mixed("LENGTH " + l, x, l);
        }
    }
}
