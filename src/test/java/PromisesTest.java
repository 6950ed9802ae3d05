/** Each promise by itself: ordinary inputs, the edges that the document names, wrong inputs. */
public final class PromisesTest {
    private static final int NONE = -1000, BAD = -1001, NO = -1002, FULL = -1003;
    private static final int LEAST = Integer.MIN_VALUE;
    private static final int MOST = Integer.MAX_VALUE;

    private PromisesTest() {
    }

    public static void main(String[] args) {
        newObject();
        strip();
        bend();
        press();
        takes();
        makes();
        unmakes();
        again();
        of();
        joint();
        box();
        hitsBelow();
        hitsAbove();
        hitsItself();
        hitsTheFirstOf();
        hitsLaidByTheFlangeBehind();
        hitsRefused();
        free();
        orders();
        order();
        bestIsNotFirst();
        changes();
        ways();
        count();
        type();
        clear();
        does();
        doesFaults();
        doesEndsAll();
        back();
        told();
        digest();
        Check.end();
    }

    private static void due(String call, long got, long want) {
        Check.due(call, got, want);
    }

    private static FlangeFolder folder(int first, int... lengthsAndWays) {
        return Check.folder(first, lengthsAndWays);
    }

    private static void newObject() {
        due("NONE", FlangeFolder.NONE, NONE);
        due("BAD", FlangeFolder.BAD, BAD);
        due("NO", FlangeFolder.NO, NO);
        due("FULL", FlangeFolder.FULL, FULL);
        FlangeFolder x = new FlangeFolder();
        int[] counts = {0, 0, 0, 2, 8, 3, 5, 8, 50, 50, 5};
        for (int what = 0; what < counts.length; what++) {
            due("new: count(" + what + ")", x.count(what), counts[what]);
        }
        for (int what = 0; what < 5; what++) {
            due("new: told(" + what + ")", x.told(what), 0);
        }
        due("new: joint(1, 0)", x.joint(1, 0), 5);
        due("new: joint(1, 1)", x.joint(1, 1), 0);
        due("new: orders()", x.orders(), 1);
        due("new: ways()", x.ways(), 1);
        due("new: free()", x.free(), 0);
    }

    private static void strip() {
        FlangeFolder x = folder(3, 4, 1, 5, -1);
        x.press(1, 7);
        x.takes(1, 9);
        x.makes(0);
        due("strip: of three flanges", x.strip(20), 3);
        due("strip: bends", x.count(0), 0);
        due("strip: made", x.count(2), 0);
        due("strip: length", x.count(10), 20);
        due("strip: the press stays", x.count(3) * 100 + x.count(4), 107);
        due("strip: takes stay", x.count(6), 9);
        due("strip: of one flange", x.strip(1), 1);
        due("strip: a state each", x.told(4), 5);
        int[] wrong = {0, 21, -1, LEAST, MOST};
        for (int l : wrong) {
            due("strip(" + l + ")", x.strip(l), BAD);
        }
        due("strip: refused", x.told(0), wrong.length);
        due("strip: nothing changed", x.count(10), 1);
        x.back();
        due("strip: refused ones left no state", x.count(10), 20);
        x.bend(4, 1, 0);
        due("strip: a bend told anew is not made", x.of(0, 3), 0);
    }

    private static void bend() {
        FlangeFolder x = new FlangeFolder();
        for (int i = 0; i < 6; i++) {
            due("bend: number", x.bend(20 - i, i % 2 == 0 ? 1 : -1, i % 3), i);
        }
        due("bend: the seventh", x.bend(1, 1, 0), FULL);
        due("bend: BAD is ahead of FULL", x.bend(0, 1, 0), BAD);
        due("bend: bends", x.count(0), 6);
        due("bend: none made", x.count(2), 0);
        due("bend: length of 4", x.of(4, 0), 16);
        due("bend: way of 5", x.of(5, 1), -1);
        due("bend: tool of 5", x.of(5, 2), 2);
        due("bend: FULL counted", x.told(2), 1);
        due("bend: BAD counted", x.told(0), 1);
        FlangeFolder y = new FlangeFolder();
        int[][] wrong = {{0, 1, 0}, {21, 1, 0}, {LEAST, 1, 0}, {MOST, 1, 0}, {1, 0, 0}, {1, 2, 0}, {1, -2, 0},
            {1, LEAST, 0}, {1, MOST, 0}, {1, 1, -1}, {1, 1, 3}, {1, 1, LEAST}, {1, 1, MOST}};
        for (int[] w : wrong) {
            due("bend: wrong", y.bend(w[0], w[1], w[2]), BAD);
        }
        due("bend: none came", y.count(0), 0);
        due("bend: no state", y.told(4), 0);
        due("bend: edges", y.bend(1, -1, 2), 0);
        due("bend: edges", y.bend(20, 1, 0), 1);
        due("bend: states", y.told(4), 2);
    }

    private static void press() {
        FlangeFolder x = new FlangeFolder();
        due("press: as at first", x.press(20, 40), 208);
        due("press: greatest", x.press(0, 0), 2040);
        due("press: least", x.press(0, 40), 0);
        due("press: low", x.press(7, 3), 40);
        int[][] wrong = {{-1, 0}, {21, 0}, {0, -1}, {0, 41}, {LEAST, 0}, {0, LEAST}, {MOST, 0}, {0, MOST}};
        for (int[] w : wrong) {
            due("press: wrong", x.press(w[0], w[1]), BAD);
        }
        due("press: WIDE", x.count(3), 7);
        due("press: HIGH", x.count(4), 3);
        due("press: states", x.told(4), 4);
        due("press: refused", x.told(0), wrong.length);
        FlangeFolder y = folder(3, 1, 1, 3, -1);
        due("press: orders under a wide one", y.orders(), 0);
        y.press(0, 0);
        due("press: orders are told anew", y.orders(), 2);
        due("press: free told anew", y.free(), 3);
    }

    private static void takes() {
        FlangeFolder x = new FlangeFolder();
        due("takes: tool 0", x.takes(0, 99), 3);
        due("takes: tool 1", x.takes(1, 0), 5);
        due("takes: tool 2", x.takes(2, 50), 8);
        due("takes: again", x.takes(0, 1), 99);
        int[][] wrong = {{-1, 0}, {3, 0}, {0, -1}, {0, 100}, {LEAST, 0}, {MOST, 0}, {0, LEAST}, {0, MOST}};
        for (int[] w : wrong) {
            due("takes: wrong", x.takes(w[0], w[1]), BAD);
        }
        due("takes: count(5)", x.count(5), 1);
        due("takes: count(6)", x.count(6), 0);
        due("takes: count(7)", x.count(7), 50);
        due("takes: states", x.told(4), 4);
        due("takes: refused", x.told(0), wrong.length);
    }

    private static void makes() {
        FlangeFolder x = folder(5, 4, 1, 5, 1, 4, 1);
        due("makes: 1", x.makes(1), 1);
        due("makes: it is made", x.makes(1), NO);
        due("makes: 0", x.makes(0), 2);
        due("makes: bits", x.count(2), 3);
        due("makes: it hits", x.hits(2), 2);
        due("makes: a bend that hits", x.makes(2), NO);
        due("makes: nothing changed", x.count(2), 3);
        due("makes: no such bend", x.makes(3), BAD);
        due("makes: -1", x.makes(-1), BAD);
        due("makes: least", x.makes(LEAST), BAD);
        due("makes: most", x.makes(MOST), BAD);
        due("makes: 32", x.makes(32), BAD);
        due("makes: NO counted", x.told(1), 2);
        due("makes: BAD counted", x.told(0), 5);
        x.back();
        due("makes: a state each", x.count(2), 2);
    }

    private static void unmakes() {
        FlangeFolder x = folder(6, 2, 1, 6, 1);
        x.makes(0);
        x.makes(1);
        due("unmakes: 0", x.unmakes(0), 1);
        due("unmakes: bits", x.count(2), 2);
        due("unmakes: it is not made", x.unmakes(0), NO);
        due("unmakes: no such bend", x.unmakes(2), BAD);
        due("unmakes: -1", x.unmakes(-1), BAD);
        due("unmakes: least", x.unmakes(LEAST), BAD);
        due("unmakes: most", x.unmakes(MOST), BAD);
        due("unmakes: 33", x.unmakes(33), BAD);
        due("unmakes: refused", x.told(0) * 10 + x.told(1), 51);
        due("unmakes: the last", x.unmakes(1), 0);
        due("unmakes: states", x.told(4), 5);
        nothingIsLookedAt();
    }

    /** Without its bend to the right the strip comes down again and goes through flange 0 at 1, 0. */
    private static void nothingIsLookedAt() {
        FlangeFolder x = folder(3, 2, 1, 1, 1, 1, -1, 4, 1);
        x.press(0, 0);
        int[] order = {2, 3, 0, 1};
        for (int n = 0; n < 4; n++) {
            due("unmakes: made first", x.makes(order[n]), n + 1);
        }
        due("unmakes: the end, x", x.joint(5, 0), -2);
        due("unmakes: the end, y", x.joint(5, 1), 3);
        due("unmakes: whatever becomes", x.unmakes(2), 3);
        due("unmakes: the end then, x", x.joint(5, 0), 1);
        due("unmakes: the end then, y", x.joint(5, 1), -2);
        due("unmakes: not to be made again", x.hits(2), 1);
    }

    private static void again() {
        FlangeFolder x = folder(6, 2, 1, 6, 1);
        due("again: none were", x.again(), 0);
        due("again: a state even so", x.told(4), 4);
        x.makes(1);
        x.makes(0);
        due("again: two were", x.again(), 2);
        due("again: none is", x.count(1), 0);
        due("again: bends stay", x.count(0), 2);
        x.back();
        due("again: back", x.count(2), 3);
    }

    private static void of() {
        FlangeFolder x = new FlangeFolder();
        due("of: none yet", x.of(0, 0), BAD);
        x.bend(7, -1, 2);
        x.bend(9, 1, 1);
        x.makes(1);
        int[][] dues = {{7, -1, 2, 0}, {9, 1, 1, 1}};
        for (int i = 0; i < 2; i++) {
            for (int what = 0; what < 4; what++) {
                due("of(" + i + ", " + what + ")", x.of(i, what), dues[i][what]);
            }
        }
        int[][] wrong = {{-1, 0}, {2, 0}, {0, -1}, {0, 4}, {LEAST, 0}, {MOST, 0}, {0, LEAST}, {0, MOST}};
        for (int[] w : wrong) {
            due("of: wrong", x.of(w[0], w[1]), BAD);
        }
        due("of: refused", x.told(0), wrong.length + 1);
    }

    private static void joint() {
        FlangeFolder x = folder(5, 4, -1, 3, -1, 2, 1);
        x.press(0, 0);
        due("joint: straight", x.joint(4, 0), 14);
        x.makes(2);
        x.makes(0);
        x.makes(1);
        int[][] dues = {{0, 0}, {5, 0}, {5, -4}, {2, -4}, {2, -6}};
        for (int k = 0; k < dues.length; k++) {
            due("joint(" + k + ", 0)", x.joint(k, 0), dues[k][0]);
            due("joint(" + k + ", 1)", x.joint(k, 1), dues[k][1]);
        }
        x.unmakes(1);
        due("joint: 3, x", x.joint(3, 0), 5);
        due("joint: 3, y", x.joint(3, 1), -7);
        due("joint: 4, x", x.joint(4, 0), 7);
        int[][] wrong = {{-1, 0}, {5, 0}, {0, -1}, {0, 2}, {LEAST, 0}, {MOST, 0}, {0, LEAST}, {0, MOST}};
        for (int[] w : wrong) {
            due("joint: wrong", x.joint(w[0], w[1]), BAD);
        }
        due("joint: refused", x.told(0), wrong.length);
    }

    private static void box() {
        FlangeFolder x = folder(2, 3, 1, 7, 1, 9, 1);
        x.press(0, 0);
        due("box: straight", x.box(2), 21);
        due("box: straight", x.box(3), 0);
        x.makes(0);
        x.makes(1);
        int[] dues = {-14, 0, 2, 3};
        for (int what = 0; what < 4; what++) {
            due("box(" + what + ")", x.box(what), dues[what]);
        }
        due("box: the last bend is free", x.makes(2), 3);
        due("box: least y", x.box(1), -6);
        due("box: least x", x.box(0), -5);
        int[] wrong = {-1, 4, LEAST, MOST};
        for (int w : wrong) {
            due("box(" + w + ")", x.box(w), BAD);
        }
        due("box: refused", x.told(0), wrong.length);
    }

    /** Flange 0 hangs down behind bend 1, at x -3 as bend 1 lies, from y 0 down to -5. */
    private static void hitsBelow() {
        FlangeFolder x = folder(5, 3, -1, 4, 1);
        x.makes(0);
        x.press(2, 0);
        due("below: beyond WIDE", x.hits(1), 0);
        x.press(3, 0);
        due("below: at WIDE", x.hits(1), 1);
        due("below: not free", x.free(), 0);
        FlangeFolder y = folder(4, 3, 1, 5, -1);
        y.makes(1);
        y.press(2, 0);
        due("below: ahead, beyond WIDE", y.hits(0), 0);
        y.press(3, 0);
        due("below: ahead, at WIDE", y.hits(0), 1);
        FlangeFolder z = folder(4, 3, -1, 5, 1);
        z.makes(1);
        z.press(3, 0);
        due("below: down is below for up alone", z.hits(0), 1);
    }

    /** Flange 3 ends over the joint of bend 0: 3 on, 4 up, 3 back, so it is there at x 0, y 4. */
    private static void hitsAbove() {
        FlangeFolder x = folder(3, 3, 1, 4, 1, 3, 1);
        x.press(0, 0);
        due("above: makes", x.makes(1), 1);
        due("above: makes", x.makes(2), 2);
        x.press(0, 3);
        due("above: HIGH below it", x.hits(0), 0);
        x.press(0, 4);
        due("above: at HIGH", x.hits(0), 2);
        x.press(20, 40);
        due("above: at most", x.hits(0), 2);
        FlangeFolder y = folder(3, 3, -1, 4, -1, 4, -1);
        y.press(0, 0);
        y.makes(1);
        y.makes(2);
        y.press(0, 3);
        due("above: down, HIGH too low", y.hits(0), 0);
        y.press(0, 4);
        due("above: down, at HIGH", y.hits(0), 2);
        FlangeFolder z = folder(3, 3, 1, 4, 1, 2, 1);
        z.press(0, 0);
        z.makes(1);
        z.makes(2);
        z.press(0, 40);
        due("above: x 1 is beside it", z.hits(0), 0);
        standsUpon();
    }

    /** A flange upright at x 0, from y 2 to 7: with HIGH 1 it is out of reach. */
    private static void standsUpon() {
        FlangeFolder x = folder(1, 2, 1, 2, 1, 2, 1, 5, -1);
        x.press(0, 0);
        x.makes(3);
        x.makes(1);
        x.makes(2);
        due("above: upright, x", x.joint(5, 0), 1);
        due("above: upright, y", x.joint(5, 1), 7);
        x.press(0, 1);
        due("above: out of reach", x.hits(0), 0);
        x.press(0, 2);
        due("above: in reach", x.hits(0), 2);
    }

    private static void hitsItself() {
        FlangeFolder x = folder(5, 4, 1, 5, 1, 3, 1);
        x.press(0, 0);
        x.makes(0);
        x.makes(1);
        due("itself: one short of closing", x.hits(2), 0);
        FlangeFolder y = folder(5, 4, 1, 5, 1, 4, 1);
        y.press(0, 0);
        y.makes(0);
        y.makes(1);
        due("itself: ends meet in a point", y.hits(2), 3);
        FlangeFolder z = folder(5, 2, 1, 3, 1, 9, 1);
        z.press(0, 0);
        z.makes(0);
        z.makes(1);
        due("itself: flanges cross", z.hits(2), 3);
        FlangeFolder u = folder(5, 1, 1, 5, 1);
        u.press(0, 0);
        u.makes(0);
        due("itself: flanges side by side do not", u.hits(1), 0);
        FlangeFolder v = folder(5, 2, 1, 4, 1, 2, 1);
        v.press(0, 0);
        v.makes(0);
        v.makes(1);
        due("itself: a flange ends upon another", v.hits(2), 3);
    }

    private static void hitsTheFirstOf() {
        FlangeFolder x = folder(5, 4, 1, 5, 1, 4, 1);
        x.makes(0);
        x.makes(1);
        due("first of: 2 ahead of 3", x.hits(2), 2);
        FlangeFolder y = folder(5, 3, -1, 3, 1, 4, 1, 3, 1);
        y.press(0, 0);
        y.makes(2);
        y.makes(3);
        due("first of: makes", y.makes(0), 3);
        y.press(2, 8);
        due("first of: 2 alone", y.hits(1), 2);
        y.press(3, 8);
        due("first of: 1 ahead of 2", y.hits(1), 1);
    }

    /** Up is told by the flange behind the bend, however the shape stands. */
    private static void hitsLaidByTheFlangeBehind() {
        for (int way = -1; way <= 1; way += 2) {
            FlangeFolder x = folder(6, 2, way, 6, way, 3, -way);
            x.press(0, 0);
            due("laid: makes", x.makes(0), 1);
            x.press(2, 0);
            due("laid: flange 0 stands up ahead of bend 1", x.hits(1), 0);
            x.press(0, 0);
            due("laid: makes", x.makes(1), 2);
            x.press(20, 0);
            due("laid: turned by two quarters, flange 0 is up", x.hits(2), 1);
            x.press(5, 0);
            due("laid: flange 0 and 1 lie from x -6 on", x.hits(2), 1);
        }
    }

    private static void hitsRefused() {
        FlangeFolder x = folder(5, 4, 1);
        x.makes(0);
        due("hits: made", x.hits(0), NO);
        int[] wrong = {-1, 1, 6, 32, LEAST, MOST};
        for (int i : wrong) {
            due("hits(" + i + ")", x.hits(i), BAD);
        }
        due("hits: refused", x.told(0) * 10 + x.told(1), wrong.length * 10 + 1);
        due("hits: no state", x.told(4), 3);
    }

    private static void free() {
        FlangeFolder x = folder(5, 4, 1, 5, 1, 4, 1);
        due("free: all", x.free(), 7);
        x.makes(1);
        due("free: not the made one", x.free() & 2, 0);
        x.makes(0);
        due("free: none", x.free(), 0);
        x.again();
        due("free: all anew", x.free(), 7);
        FlangeFolder y = folder(3, 1, 1, 3, -1);
        y.makes(0);
        due("free: 1 hits", y.free(), 0);
        y.press(0, 0);
        due("free: 1 no more", y.free(), 2);
    }

    private static void orders() {
        due("orders: one bend", folder(5, 5, 1).orders(), 1);
        due("orders: two bends", folder(6, 6, 1, 6, 1).orders(), 2);
        FlangeFolder x = folder(1, 1, 1, 1, 1, 1, 1);
        x.press(0, 0);
        due("orders: none", x.orders(), 0);
        FlangeFolder y = folder(9, 4, -1, 12, -1, 13, 1, 16, -1, 7, -1, 4, -1);
        y.press(0, 0);
        due("orders: all of six", y.orders(), 720);
        y.makes(3);
        due("orders: from none made on", y.orders(), 720);
        due("orders: ways from here on", y.ways(), 120);
        y.back();
        due("orders: still", y.orders(), 720);
        y.strip(4);
        due("orders: no bends", y.orders(), 1);
        y.back();
        due("orders: with what back() brings", y.orders(), 720);
    }

    private static void order() {
        FlangeFolder x = folder(20, 20, 1, 20, -1, 20, 1);
        for (int k = 0; k < 3; k++) {
            due("order(" + k + ", 0)", x.order(k, 0), k);
            due("order(" + k + ", 1)", x.order(k, 1), k);
        }
        int[][] wrong = {{-1, 0}, {3, 0}, {0, -1}, {0, 2}, {LEAST, 0}, {MOST, 0}, {0, LEAST}, {0, MOST}};
        for (int[] w : wrong) {
            due("order: wrong", x.order(w[0], w[1]), BAD);
        }
        due("order: refused", x.told(0), wrong.length);
        FlangeFolder y = folder(3, 1, 1, 3, -1);
        due("order: there is none", y.order(0, 0), NONE);
        due("order: there is none", y.order(1, 1), NONE);
        due("order: none, and BAD even so", y.order(2, 0), BAD);
        due("order: none, and BAD even so", y.order(0, 2), BAD);
        due("order: NONE is no refusal", y.told(0), 2);
        due("order: no bends", new FlangeFolder().order(0, 0), BAD);
    }

    /** Tools 0, 1, 0: the first order is 0, 1, 2, the fewest changes are in 0, 2, 1. */
    private static void bestIsNotFirst() {
        FlangeFolder x = new FlangeFolder();
        x.strip(20);
        x.bend(20, 1, 0);
        x.bend(20, -1, 1);
        x.bend(20, 1, 0);
        int[] first = {0, 1, 2};
        int[] best = {0, 2, 1};
        for (int k = 0; k < 3; k++) {
            due("first: " + k, x.order(k, 0), first[k]);
            due("best: " + k, x.order(k, 1), best[k]);
        }
        due("best: changes", x.changes(0), 1);
        due("first: changes", x.changes(1), 2);
        x.makes(1);
        due("best: whatever is made", x.order(1, 1), 2);
        x.bend(20, 1, 1);
        int[] longer = {0, 2, 1, 3};
        for (int k = 0; k < 4; k++) {
            due("best of four: " + k, x.order(k, 1), longer[k]);
        }
        due("best of four: changes", x.changes(0), 1);
        due("first of four: changes", x.changes(1), 3);
    }

    private static void changes() {
        FlangeFolder x = new FlangeFolder();
        due("changes: no bends", x.changes(0), 0);
        due("changes: no bends", x.changes(1), 0);
        x.bend(4, 1, 2);
        due("changes: the first bend is none", x.changes(0), 0);
        due("changes: the first bend is none", x.changes(1), 0);
        int[] wrong = {-1, 2, LEAST, MOST};
        for (int w : wrong) {
            due("changes(" + w + ")", x.changes(w), BAD);
        }
        due("changes: refused", x.told(0), wrong.length);
        FlangeFolder y = folder(3, 1, 1, 3, -1);
        due("changes: there is none", y.changes(0), NONE);
        due("changes: there is none", y.changes(1), NONE);
        due("changes: NONE is no refusal", y.told(0) + y.told(1) + y.told(2), 0);
    }

    private static void ways() {
        FlangeFolder x = folder(5, 4, 1, 5, 1, 4, 1);
        x.press(0, 0);
        due("ways: never", x.ways(), 0);
        FlangeFolder y = folder(6, 6, 1, 6, 1);
        due("ways: from none", y.ways(), 2);
        y.makes(0);
        due("ways: from one", y.ways(), 1);
        y.makes(1);
        due("ways: from all", y.ways(), 1);
        y.bend(3, -1, 0);
        due("ways: with one more", y.ways(), y.hits(2) == 0 ? 1 : 0);
        FlangeFolder z = folder(3, 1, 1, 3, -1);
        z.press(0, 0);
        z.makes(0);
        z.press(1, 0);
        due("ways: stuck", z.ways(), 0);
        due("ways: of no bends", new FlangeFolder().ways(), 1);
    }

    private static void count() {
        FlangeFolder x = new FlangeFolder();
        x.strip(7);
        x.bend(8, 1, 0);
        x.bend(9, -1, 2);
        x.bend(10, 1, 1);
        x.press(4, 11);
        x.takes(0, 30);
        x.takes(1, 31);
        x.takes(2, 32);
        due("count: makes", x.makes(2), 1);
        int[] dues = {3, 1, 4, 4, 11, 30, 31, 32, 340 - 93, 340 - 31, 34};
        for (int what = 0; what < dues.length; what++) {
            due("count(" + what + ")", x.count(what), dues[what]);
        }
        int[] wrong = {-1, 11, LEAST, MOST};
        for (int w : wrong) {
            due("count(" + w + ")", x.count(w), BAD);
        }
        due("count: refused", x.told(0), wrong.length);
        FlangeFolder y = folder(1, 1, 1, 1, 1);
        y.takes(0, 99);
        due("count: BLANK below 0", y.count(8), 30 - 198);
        due("count: NOW LONG", y.count(9), 30);
    }

    private static void type() {
        FlangeFolder x = new FlangeFolder();
        due("type: 0", x.type(0), 1);
        due("type: 127", x.type(127), 2);
        int[] wrong = {-1, 128, LEAST, MOST};
        for (int w : wrong) {
            due("type(" + w + ")", x.type(w), BAD);
        }
        for (int n = 3; n <= 120; n++) {
            due("type: " + n, x.type(';'), n);
        }
        due("type: the 121st", x.type('a'), FULL);
        due("type: BAD is ahead of FULL", x.type(128), BAD);
        due("type: bytes", x.told(3), 120);
        due("type: refused", x.told(0) * 10 + x.told(2), wrong.length * 10 + 11);
        due("type: no state", x.told(4), 0);
        due("type: the text is not what back() brings", x.back(), NO);
    }

    private static void clear() {
        FlangeFolder x = new FlangeFolder();
        due("clear: empty", x.clear(), 0);
        Check.types(x, "a; s3;");
        due("clear: six", x.clear(), 6);
        due("clear: none left", x.told(3), 0);
        due("clear: nothing to do", x.does(), -10);
        due("clear: no state", x.told(4), 0);
    }

    private static void does() {
        FlangeFolder x = new FlangeFolder();
        Check.does(x, "s20;b 20 0 2;b20 1 1 ;p 0 3;k2 44;m1;m0;u1;", 8);
        due("does: the text stays", x.told(3), 43);
        int[] counts = {2, 1, 1, 0, 3, 3, 5, 44, 600 - 49, 600 - 44, 60};
        for (int what = 0; what < counts.length; what++) {
            due("does: count(" + what + ")", x.count(what), counts[what]);
        }
        due("does: 0 is up", x.of(0, 1), 1);
        due("does: 1 is down", x.of(1, 1), -1);
        due("does: one state for all", x.told(4), 1);
        due("does: once more", x.does(), 8);
        due("does: the same once more", x.count(10), 60);
        Check.does(x, "a;", 1);
        due("does: again", x.count(2), 0);
        x.back();
        due("does: back ahead of that", x.count(2), 1);
        x.back();
        due("does: back", x.back(), 0);
        due("does: all of it is unmade", x.count(10), 5);
        due("does: the press, too", x.count(3), 2);
        Check.does(x, "  s  09 ; a ;  ", 2);
        due("does: two figures with a 0", x.count(10), 9);
        Check.does(x, "a;".repeat(60), 60);
        Check.does(x, " ".repeat(118) + "a;", 1);
        Check.does(x, "a;" + " ".repeat(118), 1);
        due("does: nothing counts", x.told(0) + x.told(1) + x.told(2), 0);
        due("does: states", x.told(4), 4);
    }

    private static void doesFaults() {
        FlangeFolder x = new FlangeFolder();
        Object[][] faults = {{"", 0}, {"   ", 3}, {"a", 1}, {"a ", 2}, {";", 0}, {"a;;", 2}, {"a;a", 3}, {"a; s", 4},
            {"A;", 0}, {"c;", 0}, {"7;", 0}, {"s;", 1}, {"s 5", 3}, {"s5 6;", 3}, {"s 123;", 4}, {"s1 2;", 3},
            {"s-1;", 1}, {"s5.;", 2}, {"s5,", 2}, {"a 1;", 2}, {"a1;", 1}, {"p1;", 2}, {"p 12;", 4}, {"p123;", 3},
            {"p12 345;", 6}, {"p1 2 3;", 5}, {"p 1 2", 5}, {"k 1;", 3}, {"k1 2 3", 5}, {"b1 0;", 4}, {"b 1 0 0 0;", 8},
            {"b111;", 3}, {"b1 1 111;", 7}, {"b1 0 0", 6}, {"b1 0", 4}, {"m;", 1}, {"m1 0;", 3}, {"u", 1}, {"u1", 2},
            {"u1;x", 3}, {"a;\t", 2}, {"\u0000", 0}, {"s5;s/;", 4}, {"s5;s:;", 4}, {"s5;s5:", 5}, {"sa;", 1},
            {"s5;a;b2 0 0;q;", 12}};
        for (Object[] f : faults) {
            Check.does(new FlangeFolder(), (String) f[0], -10 - (Integer) f[1]);
        }
        Check.does(x, "a;".repeat(59) + "a ", -130);
        Check.does(x, " ".repeat(120), -130);
        Check.does(x, "s99;x", -14);
        due("faults: nothing done", x.count(10), 5);
        due("faults: no state", x.told(4), 0);
        due("faults: nothing counts", x.told(0) + x.told(1) + x.told(2), 0);
    }

    private static FlangeFolder secondMade() {
        FlangeFolder x = folder(20, 20, 1, 20, -1);
        x.makes(1);
        x.takes(0, 7);
        return x;
    }

    private static void doesEndsAll() {
        FlangeFolder x = secondMade();
        long before = x.digest();
        String[] ended = {"s0;", "s21;", "b0 0 0;", "b21 0 0;", "b1 2 0;", "b1 99 0;", "b1 0 3;", "m1;", "m2;", "u0;",
            "u2;", "p21 0;", "p0 41;", "k3 0;", "k99 9;"};
        for (String e : ended) {
            Check.does(secondMade(), e, -2000);
            Check.does(secondMade(), "k0 99;p1 1;s9;b2 0 0;s20;b20 0 0;b20 1 0;m1;" + e, -2008);
            Check.does(secondMade(), e + "a;", -2000);
        }
        Check.does(x, "s5;b4 0 0;b5 0 0;b4 0 0;m0;m1;m2;", -2006);
        Check.does(x, "s1;b1 0 0;b1 0 0;b1 0 0;b1 0 0;b1 0 0;b1 0 0;b1 0 0;", -2007);
        due("ends all: orders ahead of it", x.orders(), 2);
        Check.does(x, "s1;b1 0 0;b1 1 0;m0;m1;", -2004);
        due("ends all: orders behind it", x.orders(), 2);
        due("ends all: free behind it", x.free(), 1);
        due("ends all: refusals do not count", x.told(0) + x.told(1) + x.told(2), 0);
        due("ends all: states", x.told(4), 5);
        x.clear();
        due("ends all: nothing is other", x.digest(), before);
        due("ends all: orders as they were", x.orders(), 2);
        due("ends all: hits as they were", x.hits(0), 0);
        x.back();
        due("ends all: no state lost", x.count(5), 3);
        for (int left = 3; left >= 0; left--) {
            due("ends all: back", x.back(), left);
        }
        due("ends all: the first state", x.count(10), 5);
    }

    private static void back() {
        FlangeFolder x = new FlangeFolder();
        due("back: none", x.back(), NO);
        for (int l = 1; l <= 7; l++) {
            x.strip(l);
        }
        due("back: five at most", x.told(4), 5);
        for (int left = 4; left >= 0; left--) {
            due("back: left", x.back(), left);
            due("back: length", x.count(10), left + 2);
        }
        due("back: older ones are lost", x.back(), NO);
        due("back: counted", x.told(1), 2);
        due("back: stays", x.count(10), 2);
        backBringsAll();
    }

    private static void backBringsAll() {
        FlangeFolder x = folder(20, 20, 1, 20, -1);
        x.press(1, 2);
        x.takes(2, 22);
        x.makes(0);
        Check.types(x, "abc");
        long before = x.digest();
        x.strip(3);
        x.press(20, 40);
        x.takes(2, 1);
        x.bend(2, -1, 2);
        for (int n = 0; n < 4; n++) {
            x.back();
        }
        due("back: count(2)", x.count(2), 1);
        due("back: lengths", x.count(10), 60);
        due("back: of(1, 1)", x.of(1, 1), -1);
        due("back: press", x.count(3) * 100 + x.count(4), 102);
        due("back: takes", x.count(7), 22);
        due("back: orders", x.orders(), 2);
        due("back: the text stays", x.told(3), 3);
        due("back: the states are fewer", x.told(4), 1);
        Check.holds("back: so the digest is other", x.digest() != before);
        x.unmakes(0);
        due("back: goes on from there", x.told(4), 2);
        x.makes(9);
        x.back();
        due("back: how often refused stays", x.told(0), 1);
    }

    private static void told() {
        FlangeFolder x = new FlangeFolder();
        x.strip(0);
        x.box(9);
        x.count(-1);
        x.back();
        x.back();
        for (int n = 0; n < 6; n++) {
            x.bend(20, 1, 0);
        }
        x.bend(20, 1, 0);
        Check.types(x, "as df");
        int[] dues = {3, 2, 1, 5, 5};
        for (int what = 0; what < 5; what++) {
            due("told(" + what + ")", x.told(what), dues[what]);
        }
        int[] wrong = {-1, 5, LEAST, MOST};
        for (int w : wrong) {
            due("told(" + w + ")", x.told(w), BAD);
        }
        due("told: its own refusals count, too", x.told(0), 3 + wrong.length);
    }

    private static void digest() {
        FlangeFolder x = new FlangeFolder();
        long[] first = {0, 0, 0, 0, 0, 0, 0, 0, 2, 8, 3, 5, 8, 50, 50, 5, 5, 0, 0, 5, 0, 0, 0, 5, 0, 0, 1, 0, 0, 1};
        due("digest: new", x.digest(), mixed(first));
        due("digest: changes nothing", x.digest(), mixed(first));
        x.strip(6);
        x.bend(4, -1, 1);
        x.makes(0);
        x.makes(0);
        x.of(3, 3);
        x.type('a');
        long[] then = {1, 1, 0, 1, 3, 1, 1, 1, 2, 8, 3, 5, 8, 95, 95, 10, 6, 4, -1, 1, 1, 0, 0, 6, 0, 6, -4,
            0, -4, 6, 0, 0, 1, 0, 0, 1};
        due("digest: one bend", x.digest(), mixed(then));
        FlangeFolder y = folder(3, 1, 1, 3, -1);
        long[] none = {0, 0, 0, 0, 3, 2, 0, 0, 2, 8, 3, 5, 8, 64, 70, 7, 3, 1, 1, 0, 0, 3, -1, 0, 0, 0, 0, 3, 0, 4, 0,
            7, 0, 0, 0, 7, 0, 3, 0, NONE, NONE, 0};
        due("digest: no order", y.digest(), mixed(none));
        FlangeFolder z = new FlangeFolder();
        z.strip(20);
        z.bend(20, 1, 0);
        z.bend(20, -1, 1);
        z.bend(20, 1, 0);
        long[] best = {0, 0, 0, 0, 4, 3, 0, 0, 2, 8, 3, 5, 8, 789, 800, 80, 20, 20, 1, 0, 0, 20, -1, 1, 0, 20, 1, 0, 0,
            0, 0, 20, 0, 40, 0, 60, 0, 80, 0, 0, 0, 80, 0, 7, 6, 1, 2, 6};
        due("digest: best is ahead of first", z.digest(), mixed(best));
    }

    private static long mixed(long[] values) {
        long h = 2934;
        for (long v : values) {
            h = 31 * h + v;
        }
        return h;
    }
}
