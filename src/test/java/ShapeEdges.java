/** Promises 9 to 13: the shape, sentence by sentence. */
final class ShapeEdges {
    private static final int LEAST = Integer.MIN_VALUE;
    private static final int MOST = Integer.MAX_VALUE;

    private ShapeEdges() {
    }

    static void run() {
        of();
        joint();
        jointRefused();
        box();
        boxRefused();
        hits();
        hitsRefused();
        free();
        freeOfMany();
    }

    private static void says(int promise, String words) {
        Document.says("Promise " + promise, words);
    }

    private static void due(String call, long got, long want) {
        Check.due(call, got, want);
    }

    private static void of() {
        says(9, "Of BEND i: LENGTH of the FLANGE behind it (what 0), WAY (1), TOOL (2), MADE (3: 1, 0).");
        FlangeFolder x = new FlangeFolder();
        x.strip(9);
        int[][] told = {{1, 1, 0}, {20, -1, 2}, {2, 1, 1}, {19, -1, 0}, {3, 1, 2}, {18, -1, 1}};
        for (int[] t : told) {
            x.bend(t[0], t[1], t[2]);
        }
        Check.makes(x, 5);
        for (int i = 0; i < 6; i++) {
            for (int what = 0; what < 3; what++) {
                due("of(" + i + ", " + what + ")", x.of(i, what), told[i][what]);
            }
            due("of(" + i + ", 3)", x.of(i, 3), i == 5 ? 1 : 0);
        }
        says(9, "BAD.");
        for (int i : new int[] {-1, 6, 7, 32, LEAST, MOST}) {
            Check.refused("of(" + i + ", 0)", x, Check.BAD, y -> y.of(i, 0));
        }
        for (int what : new int[] {-1, 4, LEAST, MOST}) {
            Check.refused("of(5, " + what + ")", x, Check.BAD, y -> y.of(5, what));
        }
        Check.refused("of(0, 0) without BENDS", new FlangeFolder(), Check.BAD, y -> y.of(0, 0));
        x.back();
        x.back();
        Check.refused("of(5, 0) of five", x, Check.BAD, y -> y.of(5, 0));
    }

    private static void joint() {
        says(10, "x (what 0), y (1) of JOINT k (0 to as many as there are FLANGES) of the SHAPE as it is.");
        FlangeFolder one = new FlangeFolder();
        int[] xs = {0, 5};
        for (int k = 0; k <= 1; k++) {
            due("one FLANGE: joint(" + k + ", 0)", one.joint(k, 0), xs[k]);
            due("one FLANGE: joint(" + k + ", 1)", one.joint(k, 1), 0);
        }
        FlangeFolder x = Check.sixBends();
        due("seven FLANGES: joint(0, 0)", x.joint(0, 0), 0);
        due("seven FLANGES: joint(7, 0)", x.joint(7, 0), 65);
        due("seven FLANGES: joint(7, 1)", x.joint(7, 1), 0);
        Check.makes(x, 5);
        due("with the last MADE: joint(7, 0)", x.joint(7, 0), 61);
        due("with the last MADE: joint(7, 1)", x.joint(7, 1), -4);
        Check.makes(x, 0, 1, 2, 3, 4);
        int[][] there = {{0, 0}, {9, 0}, {9, -4}, {-3, -4}, {-3, -17}, {-19, -17}, {-19, -10}, {-15, -10}};
        for (int k = 0; k <= 7; k++) {
            due("all MADE: joint(" + k + ", 0)", x.joint(k, 0), there[k][0]);
            due("all MADE: joint(" + k + ", 1)", x.joint(k, 1), there[k][1]);
        }
    }

    private static void jointRefused() {
        says(10, "BAD.");
        FlangeFolder one = new FlangeFolder();
        FlangeFolder seven = Check.sixBends();
        for (int k : new int[] {2, -1, LEAST, MOST}) {
            Check.refused("one FLANGE: joint(" + k + ", 0)", one, Check.BAD, y -> y.joint(k, 0));
        }
        for (int k : new int[] {8, -1, LEAST, MOST}) {
            Check.refused("seven FLANGES: joint(" + k + ", 1)", seven, Check.BAD, y -> y.joint(k, 1));
        }
        for (int what : new int[] {2, -1, LEAST, MOST}) {
            Check.refused("joint(7, " + what + ")", seven, Check.BAD, y -> y.joint(7, what));
        }
        seven.back();
        due("joint(7, 0) of the last state with seven", seven.joint(7, 0), 65);
        seven.back();
        Check.refused("six FLANGES: joint(7, 0)", seven, Check.BAD, y -> y.joint(7, 0));
    }

    private static void box() {
        says(11, "Of all POINTS the least x (what 0), y (1), the greatest x (2), y (3).");
        box("one FLANGE", new FlangeFolder(), 0, 0, 5, 0);
        box("the least", Check.folder(1), 0, 0, 1, 0);
        box("the longest", Check.folder(20, 20, 1, 20, 1, 20, 1, 20, 1, 20, 1, 20, 1), 0, 0, 140, 0);
        FlangeFolder x = Check.sixBends();
        Check.makes(x, 0, 1, 2, 3, 4, 5);
        box("all MADE", x, -19, -17, 9, 0);
        for (int way = -1; way <= 1; way += 2) {
            FlangeFolder y = Check.folder(2, 3, way, 7, way, 9, way);
            y.press(0, 0);
            Check.makes(y, 0, 1, 2);
            box("round, WAY " + way, y, -5, way == 1 ? -6 : -3, 2, way == 1 ? 3 : 6);
        }
        FlangeFolder up = Check.folder(20, 20, 1, 20, 1, 20, 1, 20, 1, 20, 1, 20, 1);
        Check.makes(up, 0);
        box("straight up", up, 0, 0, 20, 120);
    }

    private static void box(String name, FlangeFolder x, int... dues) {
        for (int what = 0; what <= 3; what++) {
            due(name + ": box(" + what + ")", x.box(what), dues[what]);
        }
    }

    private static void boxRefused() {
        says(11, "BAD.");
        FlangeFolder x = Check.sixBends();
        for (int what : new int[] {-1, 4, LEAST, MOST}) {
            Check.refused("box(" + what + ")", x, Check.BAD, y -> y.box(what));
        }
    }

    private static void hits() {
        says(12, "BEND i that is not MADE: 0 FREE, or what it HITS (1 to 3).");
        FlangeFolder x = Check.folder(3, 3, -1, 1, 1, 1, 1, 1, 1);
        x.press(0, 0);
        due("the first BEND, FREE", x.hits(0), 0);
        due("the last BEND, FREE", x.hits(3), 0);
        Check.makes(x, 0, 2, 3);
        int[][] presses = {{3, 40, 1}, {2, 40, 2}, {2, 0, 3}};
        for (int[] p : presses) {
            x.press(p[0], p[1]);
            Check.onlyTells("WIDE " + p[0] + ", HIGH " + p[1], x, p[2], y -> y.hits(1));
        }
        FlangeFolder six = Check.sixBends();
        for (int i = 0; i < 6; i++) {
            int bend = i;
            Check.onlyTells("one of six", six, 0, y -> y.hits(bend));
        }
    }

    private static void hitsRefused() {
        says(12, "BAD;");
        FlangeFolder x = Check.folder(20, 20, 1, 20, -1);
        for (int i : new int[] {2, 6, -1, 31, 32, LEAST, MOST}) {
            Check.refused("hits(" + i + ")", x, Check.BAD, y -> y.hits(i));
        }
        Check.refused("hits(6) of six", Check.sixBends(), Check.BAD, y -> y.hits(6));
        Check.refused("hits(0) without BENDS", new FlangeFolder(), Check.BAD, y -> y.hits(0));
        says(12, "NO: it is MADE.");
        Check.makes(x, 1);
        Check.refused("hits(1) of a MADE one", x, Check.NO, y -> y.hits(1));
        x.unmakes(1);
        due("hits(1) of one not MADE any more", x.hits(1), 0);
    }

    private static void free() {
        says(13, "BENDS that are FREE, as bits.");
        due("without BENDS", new FlangeFolder().free(), 0);
        due("one", Check.folder(5, 5, 1).free(), 1);
        FlangeFolder x = Check.sixBends();
        due("all of six", x.free(), 63);
        int left = 63;
        for (int i = 0; i < 6; i++) {
            Check.makes(x, i);
            left -= 1 << i;
            due("MADE to " + i, x.free(), left);
        }
        Check.onlyTells("all MADE", x, 0, FlangeFolder::free);
    }

    /** Of those not made the bits agree with hits(), under presses of all sizes. */
    private static void freeOfMany() {
        for (int made = 0; made < 6; made++) {
            for (int wide = 0; wide <= 20; wide += 4) {
                FlangeFolder x = Check.sixBends();
                Check.makes(x, made);
                x.press(wide, 2 * wide);
                int bits = 0;
                for (int i = 0; i < 6; i++) {
                    bits |= i != made && x.hits(i) == 0 ? 1 << i : 0;
                }
                due("BEND " + made + " MADE, WIDE " + wide, x.free(), bits);
            }
        }
    }
}
