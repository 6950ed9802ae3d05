/** Promises 1 to 8: a new object and what is told in, sentence by sentence. */
final class ToldInEdges {
    private static final int LEAST = Integer.MIN_VALUE;
    private static final int MOST = Integer.MAX_VALUE;

    private ToldInEdges() {
    }

    static void run() {
        newObject();
        strip();
        stripRefused();
        bend();
        bendRefused();
        press();
        takes();
        makes();
        makesRefused();
        makesWhatHits();
        unmakes();
        unmakesRefused();
        nothingIsLookedAt();
        again();
    }

    private static void says(int promise, String words) {
        Document.says("Promise " + promise, words);
    }

    private static void due(String call, long got, long want) {
        Check.due(call, got, want);
    }

    private static FlangeFolder sixMade() {
        FlangeFolder x = Check.sixBends();
        Check.makes(x, 0, 1, 2, 3, 4, 5);
        return x;
    }

    private static void newObject() {
        says(1, "As told; one FLANGE of LENGTH 5, no BENDS.");
        int[] counts = {0, 0, 0, 2, 8, 3, 5, 8, 50, 50, 5};
        FlangeFolder x = new FlangeFolder();
        for (int what = 0; what < counts.length; what++) {
            due("count(" + what + ")", x.count(what), counts[what]);
        }
        for (int what = 0; what <= 4; what++) {
            due("told(" + what + ")", x.told(what), 0);
        }
        due("joint(1, 0): LENGTH 5", x.joint(1, 0), 5);
        due("orders()", x.orders(), 1);
        due("clear(): no TEXT", x.clear(), 0);
        Check.refused("joint(2, 0): no second FLANGE", x, Check.BAD, y -> y.joint(2, 0));
        Check.refused("of(0, 0): no BEND", x, Check.BAD, y -> y.of(0, 0));
        Check.refused("makes(0): no BEND", x, Check.BAD, y -> y.makes(0));
        Check.refused("back(): no STATE", x, Check.NO, FlangeFolder::back);
        FlangeFolder one = new FlangeFolder();
        one.strip(9);
        one.press(0, 0);
        one.takes(0, 0);
        due("another object has nothing of it", new FlangeFolder().count(10), 5);
        due("another object's press", new FlangeFolder().press(1, 1), 208);
        due("another object's takes", new FlangeFolder().takes(0, 1), 3);
    }

    private static void strip() {
        says(2, "A strip of one FLANGE of LENGTH l, no BENDS: how many FLANGES there were.");
        due("strip(1) of the fewest FLANGES", new FlangeFolder().strip(1), 1);
        for (int l : new int[] {1, 2, 19, 20}) {
            FlangeFolder x = sixMade();
            due("strip(" + l + ") of the most FLANGES", x.strip(l), 7);
            due("count(0)", x.count(0), 0);
            due("count(2): none MADE", x.count(2), 0);
            due("count(10)", x.count(10), l);
            due("joint(1, 0)", x.joint(1, 0), l);
            due("orders()", x.orders(), 1);
            due("press() stays", x.press(1, 1), 0);
            due("strip(1) behind it", x.strip(1), 1);
        }
        says(2, "S.");
        Check.leaves("strip(20) of six MADE", sixMade(), 7, x -> x.strip(20));
        Check.leaves("strip(5) of what it is", new FlangeFolder(), 1, x -> x.strip(5));
    }

    private static void stripRefused() {
        says(2, "BAD.");
        FlangeFolder x = sixMade();
        for (int l : new int[] {0, 21, -1, -20, 100, 257, LEAST, LEAST + 1, MOST}) {
            Check.refused("strip(" + l + ")", x, Check.BAD, y -> y.strip(l));
        }
    }

    private static void bend() {
        says(3, "A new BEND behind all, WAY w (1, -1), TOOL t, and a FLANGE of LENGTH l behind it: its number.");
        FlangeFolder x = new FlangeFolder();
        int[][] told = {{1, 1, 0}, {20, -1, 2}, {2, -1, 0}, {19, 1, 2}, {1, -1, 1}, {20, 1, 1}};
        for (int i = 0; i < 6; i++) {
            due("bend(): its number", x.bend(told[i][0], told[i][1], told[i][2]), i);
        }
        int sum = 5;
        for (int i = 0; i < 6; i++) {
            sum += told[i][0];
            due("joint(" + (i + 2) + ", 0)", x.joint(i + 2, 0), sum);
            for (int what = 0; what < 3; what++) {
                due("of(" + i + ", " + what + ")", x.of(i, what), told[i][what]);
            }
        }
        FlangeFolder y = Check.folder(20, 20, 1);
        Check.makes(y, 0);
        y.bend(20, 1, 0);
        due("behind a MADE one: count(2)", y.count(2), 1);
        due("behind a MADE one: y of the last JOINT", y.joint(3, 1), 40);
        due("behind a MADE one: free()", y.free(), 2);
        says(3, "S.");
        Check.leaves("the first", new FlangeFolder(), 0, z -> z.bend(1, 1, 0));
        FlangeFolder five = Check.folder(1, 1, 1, 1, 1, 1, 1, 1, 1, 1, 1);
        Check.leaves("the last", five, 5, z -> z.bend(20, -1, 2));
    }

    private static void bendRefused() {
        says(3, "BAD;");
        FlangeFolder x = Check.folder(20, 20, 1);
        for (int l : new int[] {0, 21, -1, LEAST, MOST}) {
            Check.refused("bend(" + l + ", 1, 0)", x, Check.BAD, y -> y.bend(l, 1, 0));
        }
        for (int w : new int[] {0, 2, -2, LEAST, LEAST + 1, MOST}) {
            Check.refused("bend(1, " + w + ", 0)", x, Check.BAD, y -> y.bend(1, w, 0));
        }
        for (int t : new int[] {-1, 3, LEAST, MOST}) {
            Check.refused("bend(1, 1, " + t + ")", x, Check.BAD, y -> y.bend(1, 1, t));
        }
        says(3, "FULL: 6.");
        FlangeFolder five = Check.folder(1, 1, 1, 1, 1, 1, 1, 1, 1, 1, 1);
        due("the sixth", five.bend(1, 1, 0), 5);
        Check.refused("the seventh", five, Check.FULL, y -> y.bend(1, 1, 0));
        five.back();
        due("the sixth behind back()", five.bend(2, 1, 0), 5);
        Check.refused("the seventh behind back()", five, Check.FULL, y -> y.bend(1, 1, 0));
        five.strip(1);
        due("the first behind strip()", five.bend(1, 1, 0), 0);
    }

    private static void press() {
        says(4, "WIDE becomes w, HIGH h: 100 times WIDE as it was, and HIGH as it was, together.");
        FlangeFolder x = new FlangeFolder();
        int[][] told = {{20, 40, 208}, {0, 0, 2040}, {20, 0, 0}, {0, 40, 2000}, {1, 1, 40}, {19, 39, 101},
            {2, 8, 1939}};
        for (int[] p : told) {
            due("press(" + p[0] + ", " + p[1] + ")", x.press(p[0], p[1]), p[2]);
            due("count(3)", x.count(3), p[0]);
            due("count(4)", x.count(4), p[1]);
        }
        says(4, "S.");
        Check.leaves("press(20, 40)", sixMade(), 0, y -> y.press(20, 40));
        Check.leaves("press(2, 8) as it is", new FlangeFolder(), 208, y -> y.press(2, 8));
        says(4, "BAD.");
        FlangeFolder z = sixMade();
        for (int w : new int[] {-1, 21, LEAST, MOST}) {
            Check.refused("press(" + w + ", 0)", z, Check.BAD, y -> y.press(w, 0));
        }
        for (int h : new int[] {-1, 41, LEAST, MOST}) {
            Check.refused("press(0, " + h + ")", z, Check.BAD, y -> y.press(0, h));
        }
    }

    private static void takes() {
        says(5, "TOOL t TAKES n: what it took.");
        for (int t = 0; t <= 2; t++) {
            FlangeFolder x = new FlangeFolder();
            due("takes(" + t + ", 99)", x.takes(t, 99), new int[] {3, 5, 8}[t]);
            due("takes(" + t + ", 0)", x.takes(t, 0), 99);
            due("takes(" + t + ", 1)", x.takes(t, 1), 0);
            due("count(" + (5 + t) + ")", x.count(5 + t), 1);
        }
        says(5, "S.");
        Check.leaves("takes(2, 99)", sixMade(), 8, y -> y.takes(2, 99));
        Check.leaves("takes(0, 3) as it is", new FlangeFolder(), 3, y -> y.takes(0, 3));
        says(5, "BAD.");
        FlangeFolder z = sixMade();
        for (int t : new int[] {-1, 3, LEAST, MOST}) {
            Check.refused("takes(" + t + ", 0)", z, Check.BAD, y -> y.takes(t, 0));
        }
        for (int n : new int[] {-1, 100, LEAST, MOST}) {
            Check.refused("takes(0, " + n + ")", z, Check.BAD, y -> y.takes(0, n));
        }
    }

    private static void makes() {
        says(6, "BEND i is MADE: how many are.");
        FlangeFolder x = Check.sixBends();
        int[] order = {5, 0, 3, 1, 4, 2};
        int bits = 0;
        for (int n = 0; n < 6; n++) {
            due("makes(" + order[n] + ")", x.makes(order[n]), n + 1);
            bits |= 1 << order[n];
            due("count(2)", x.count(2), bits);
            due("of(" + order[n] + ", 3)", x.of(order[n], 3), 1);
        }
        says(6, "S.");
        FlangeFolder y = Check.sixBends();
        Check.leaves("the first", y, 1, z -> z.makes(5));
        Check.makes(y, 0, 1, 2, 3, 4);
        Check.leaves("the last", y, 6, z -> z.makes(5));
    }

    private static void makesRefused() {
        says(6, "BAD;");
        FlangeFolder x = Check.folder(20, 20, 1, 20, -1);
        for (int i : new int[] {2, 5, 6, -1, 31, 32, 33, 64, LEAST, LEAST + 1, MOST}) {
            Check.refused("makes(" + i + ")", x, Check.BAD, y -> y.makes(i));
        }
        FlangeFolder six = Check.sixBends();
        Check.refused("makes(6) of six", six, Check.BAD, y -> y.makes(6));
        six.strip(9);
        Check.refused("makes(0) of one that is away", six, Check.BAD, y -> y.makes(0));
        says(6, "NO: it is MADE");
        FlangeFolder made = sixMade();
        for (int i = 0; i < 6; i++) {
            int bend = i;
            Check.refused("makes(" + i + ") of a MADE one", made, Check.NO, y -> y.makes(bend));
        }
    }

    private static void makesWhatHits() {
        says(6, "it HITS.");
        FlangeFolder x = Check.folder(5, 3, -1, 4, 1);
        Check.makes(x, 0);
        x.press(3, 0);
        due("hits(1)", x.hits(1), 1);
        Check.refused("makes(1) that hits what is below", x, Check.NO, y -> y.makes(1));
        x.press(2, 0);
        due("makes(1) that hits nothing any more", x.makes(1), 2);
        FlangeFolder z = Check.folder(5, 4, 1, 5, 1, 4, 1);
        Check.makes(z, 0, 1);
        due("hits(2)", z.hits(2), 2);
        Check.refused("makes(2) that hits what is above", z, Check.NO, y -> y.makes(2));
        z.press(0, 0);
        due("hits(2) then", z.hits(2), 3);
        Check.refused("makes(2) that hits itself", z, Check.NO, y -> y.makes(2));
    }

    private static void unmakes() {
        says(7, "BEND i is not MADE any more");
        FlangeFolder x = sixMade();
        int[] order = {2, 5, 0, 4, 1, 3};
        int bits = 63;
        for (int n = 0; n < 6; n++) {
            bits -= 1 << order[n];
            due("unmakes(" + order[n] + ")", x.unmakes(order[n]), 5 - n);
            due("count(2)", x.count(2), bits);
        }
        says(7, ": how many are.");
        due("unmakes(5) of six", sixMade().unmakes(5), 5);
        FlangeFolder one = Check.folder(5, 5, 1);
        Check.makes(one, 0);
        due("unmakes(0) of one", one.unmakes(0), 0);
        says(7, "S.");
        Check.leaves("unmakes(3)", sixMade(), 5, y -> y.unmakes(3));
        FlangeFolder made = Check.folder(5, 5, 1);
        Check.makes(made, 0);
        Check.leaves("unmakes(0) of the only one", made, 0, y -> y.unmakes(0));
    }

    private static void unmakesRefused() {
        says(7, "BAD;");
        FlangeFolder x = sixMade();
        for (int i : new int[] {6, 7, -1, 31, 32, 33, 64, LEAST, LEAST + 1, MOST}) {
            Check.refused("unmakes(" + i + ")", x, Check.BAD, y -> y.unmakes(i));
        }
        Check.refused("unmakes(0) without BENDS", new FlangeFolder(), Check.BAD, y -> y.unmakes(0));
        says(7, "NO: it is not MADE.");
        FlangeFolder none = Check.sixBends();
        for (int i = 0; i < 6; i++) {
            int bend = i;
            Check.refused("unmakes(" + i + ") of one not MADE", none, Check.NO, y -> y.unmakes(bend));
        }
        x.unmakes(4);
        Check.refused("unmakes(4) once more", x, Check.NO, y -> y.unmakes(4));
    }

    /** With a press that everything hits, and to a shape that goes through itself at 1, 0. */
    private static void nothingIsLookedAt() {
        says(7, "(nothing is looked at)");
        FlangeFolder x = sixMade();
        x.press(20, 40);
        for (int n = 0; n < 6; n++) {
            due("unmakes(" + n + ") under the widest, highest press", x.unmakes(n), 5 - n);
        }
        FlangeFolder y = Check.folder(3, 2, 1, 1, 1, 1, -1, 4, 1);
        y.press(0, 0);
        Check.makes(y, 2, 3, 0, 1);
        due("unmakes(2) to a strip through itself", y.unmakes(2), 3);
        due("x of the last JOINT", y.joint(5, 0), 1);
        due("y of the last JOINT", y.joint(5, 1), -2);
        due("unmakes(0) of that", y.unmakes(0), 2);
    }

    private static void again() {
        says(8, "No BEND is MADE: how many were.");
        due("again() without BENDS", new FlangeFolder().again(), 0);
        due("again() with none MADE", Check.sixBends().again(), 0);
        FlangeFolder x = sixMade();
        due("again() with all MADE", x.again(), 6);
        due("count(1)", x.count(1), 0);
        due("count(2)", x.count(2), 0);
        due("count(0)", x.count(0), 6);
        due("again() once more", x.again(), 0);
        says(8, "S.");
        Check.leaves("again() with all MADE", sixMade(), 6, FlangeFolder::again);
        Check.leaves("again() with none MADE", Check.sixBends(), 0, FlangeFolder::again);
        Check.leaves("again() without BENDS", new FlangeFolder(), 0, FlangeFolder::again);
    }
}
