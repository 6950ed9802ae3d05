/** The boundary cases that 'Terms' names of FLANGES, BENDS, PRESS, SHAPE and what a BEND HITS, sentence by sentence. */
final class ShapeTerms {
    private static final int LEAST = Integer.MIN_VALUE;
    private static final int MOST = Integer.MAX_VALUE;
    private static final int[] OUTWARD = {1, 1, 2, 2, 3, 3, 4};

    private ShapeTerms() {
    }

    static void run() {
        lengths();
        bends();
        betweenFlanges();
        waysAndTools();
        madeOrNot();
        press();
        taken();
        jointZero();
        straightOn();
        turns();
        points();
        laid();
        below();
        belowAtWide();
        above();
        aboveAtHigh();
        itself();
        itselfElsewhere();
        theFirstOf();
        free();
    }

    private static void says(String words) {
        Document.says("Terms", words);
    }

    private static void due(String call, long got, long want) {
        Check.due(call, got, want);
    }

    private static void lengths() {
        Document.says("What it is", "FLANGES 0 on, each with a LENGTH (1 ..");
        FlangeFolder x = Check.folder(1, 1, 1);
        due("the least LENGTH, of FLANGE 0", x.joint(1, 0), 1);
        due("the least LENGTH, of FLANGE 1", x.of(0, 0), 1);
        for (int l : new int[] {0, -1, LEAST}) {
            Check.refused("strip(" + l + ")", x, Check.BAD, y -> y.strip(l));
            Check.refused("bend(" + l + ", 1, 0)", x, Check.BAD, y -> y.bend(l, 1, 0));
        }
        says("20)");
        FlangeFolder z = Check.folder(20, 20, 1);
        due("the greatest LENGTH, of FLANGE 0", z.joint(1, 0), 20);
        due("the greatest LENGTH, of FLANGE 1", z.of(0, 0), 20);
        for (int l : new int[] {21, 32, 256, MOST}) {
            Check.refused("strip(" + l + ")", z, Check.BAD, y -> y.strip(l));
            Check.refused("bend(" + l + ", 1, 0)", z, Check.BAD, y -> y.bend(l, 1, 0));
        }
    }

    private static void bends() {
        says("BENDS 0 on, as they come (never more than 6)");
        FlangeFolder x = new FlangeFolder();
        for (int i = 0; i < 6; i++) {
            due("bend(): its number", x.bend(i + 1, 1, 0), i);
            due("count(0)", x.count(0), i + 1);
        }
        Check.refused("bend() of a seventh", x, Check.FULL, y -> y.bend(7, 1, 0));
        due("of(5, 0): the last is still the sixth", x.of(5, 0), 6);
    }

    private static void betweenFlanges() {
        says("BEND i lies between FLANGE i and FLANGE i + 1");
        int sum = 1;
        for (int i = 0; i < 6; i++) {
            FlangeFolder x = Check.folder(1, 2, 1, 3, 1, 4, 1, 5, 1, 6, 1, 7, 1);
            Check.makes(x, i);
            due("x of JOINT " + (i + 1), x.joint(i + 1, 0), sum);
            due("y of JOINT " + (i + 1), x.joint(i + 1, 1), 0);
            due("x of JOINT " + (i + 2), x.joint(i + 2, 0), sum);
            due("y of JOINT " + (i + 2), x.joint(i + 2, 1), i + 2);
            due("the FLANGE behind it", x.of(i, 0), i + 2);
            sum += i + 2;
        }
    }

    private static void waysAndTools() {
        says("it has a WAY (1 up, -1 down), a TOOL (0 .. 2)");
        FlangeFolder x = new FlangeFolder();
        for (int t = 0; t <= 2; t++) {
            x.bend(20, 1, t);
            x.bend(20, -1, t);
            due("WAY up", x.of(2 * t, 1), 1);
            due("WAY down", x.of(2 * t + 1, 1), -1);
            due("TOOL", x.of(2 * t, 2), t);
            due("TOOL", x.of(2 * t + 1, 2), t);
        }
        FlangeFolder z = new FlangeFolder();
        for (int w : new int[] {0, 2, -2, 3, LEAST, MOST}) {
            Check.refused("bend(1, " + w + ", 0)", z, Check.BAD, y -> y.bend(1, w, 0));
        }
        for (int t : new int[] {-1, 3, 4, LEAST, MOST}) {
            Check.refused("bend(1, 1, " + t + ")", z, Check.BAD, y -> y.bend(1, 1, t));
        }
    }

    private static void madeOrNot() {
        says("is MADE or not (at first)");
        FlangeFolder x = Check.folder(20, 20, 1);
        due("not MADE at first", x.of(0, 3), 0);
        Check.makes(x, 0);
        due("MADE", x.of(0, 3), 1);
        due("a new one behind a MADE one", x.bend(20, -1, 0), 1);
        due("is not MADE at first", x.of(1, 3), 0);
        due("the one ahead is MADE yet", x.of(0, 3), 1);
        x.strip(20);
        x.bend(20, 1, 0);
        due("nor is one that comes where a MADE one was", x.of(0, 3), 0);
    }

    private static void press() {
        says("PRESS: WIDE (0 .. 20; 2), HIGH (0 .. 40; 8)");
        FlangeFolder x = new FlangeFolder();
        due("WIDE at first", x.count(3), 2);
        due("HIGH at first", x.count(4), 8);
        x.press(0, 0);
        due("the least WIDE", x.count(3), 0);
        due("the least HIGH", x.count(4), 0);
        x.press(20, 40);
        due("the greatest WIDE", x.count(3), 20);
        due("the greatest HIGH", x.count(4), 40);
        for (int w : new int[] {-1, 21, LEAST, MOST}) {
            Check.refused("press(" + w + ", 8)", x, Check.BAD, y -> y.press(w, 8));
        }
        for (int h : new int[] {-1, 41, LEAST, MOST}) {
            Check.refused("press(2, " + h + ")", x, Check.BAD, y -> y.press(2, h));
        }
    }

    private static void taken() {
        says("of each TOOL what it TAKES (0 .. 99; 3, 5, 8)");
        int[] first = {3, 5, 8};
        for (int t = 0; t < 3; t++) {
            int tool = t;
            FlangeFolder x = new FlangeFolder();
            due("at first", x.count(5 + t), first[t]);
            x.takes(t, 0);
            due("the least", x.count(5 + t), 0);
            x.takes(t, 99);
            due("the greatest", x.count(5 + t), 99);
            for (int n : new int[] {-1, 100, LEAST, MOST}) {
                Check.refused("takes(" + t + ", " + n + ")", x, Check.BAD, y -> y.takes(tool, n));
            }
            due("the other TOOLS as at first", x.count(5) + x.count(6) + x.count(7), 16 - first[t] + 99);
        }
    }

    private static void jointZero() {
        says("SHAPE: JOINT 0 is at 0, 0, the strip goes from it along x");
        FlangeFolder x = Check.folder(1, 20, -1);
        for (int made = 0; made <= 1; made++) {
            due("x of JOINT 0", x.joint(0, 0), 0);
            due("y of JOINT 0", x.joint(0, 1), 0);
            due("x of JOINT 1", x.joint(1, 0), 1);
            due("y of JOINT 1", x.joint(1, 1), 0);
            x.makes(0);
        }
        due("the first BEND was MADE", x.of(0, 3), 1);
    }

    private static void straightOn() {
        says("FLANGE k by its LENGTH straight on, to JOINT k + 1");
        FlangeFolder x = Check.folder(20, 20, 1, 20, -1, 20, 1, 20, -1, 20, 1, 20, -1);
        for (int k = 0; k <= 7; k++) {
            due("x of JOINT " + k, x.joint(k, 0), 20 * k);
            due("y of JOINT " + k, x.joint(k, 1), 0);
        }
        FlangeFolder one = Check.folder(1);
        due("one FLANGE alone", one.joint(1, 0), 1);
    }

    /** Six quarters, so that all four directions are gone through and come again. */
    private static void turns() {
        says("where BEND k is MADE it turns there by a quarter, to the left (from x to y), if its WAY is 1,"
                + " to the right if -1");
        int[][] left = {{0, 0}, {1, 0}, {1, 1}, {-1, 1}, {-1, -1}, {2, -1}, {2, 2}, {-2, 2}};
        for (int way = -1; way <= 1; way += 2) {
            FlangeFolder x = spiral(way);
            for (int k = 0; k <= 7; k++) {
                due("WAY " + way + ": x of JOINT " + k, x.joint(k, 0), left[k][0]);
                due("WAY " + way + ": y of JOINT " + k, x.joint(k, 1), way * left[k][1]);
            }
        }
        FlangeFolder z = Check.folder(2, 3, 1, 4, -1, 5, -1, 6, 1);
        z.press(0, 0);
        Check.makes(z, 0, 1, 2, 3);
        int[][] there = {{0, 0}, {2, 0}, {2, 3}, {6, 3}, {6, -2}, {12, -2}};
        for (int k = 0; k <= 5; k++) {
            due("to and fro: x of JOINT " + k, z.joint(k, 0), there[k][0]);
            due("to and fro: y of JOINT " + k, z.joint(k, 1), there[k][1]);
        }
    }

    private static FlangeFolder spiral(int way) {
        FlangeFolder x = new FlangeFolder();
        x.strip(OUTWARD[0]);
        for (int k = 1; k < 7; k++) {
            x.bend(OUTWARD[k], way, 0);
        }
        x.press(0, 0);
        Check.makes(x, 0, 1, 2, 3, 4, 5);
        return x;
    }

    /** Of a flange below the bend the places between its ends count, and its ends do. */
    private static void points() {
        says("POINTS: all with whole x, y on it, JOINTS too");
        FlangeFolder x = Check.folder(2, 5, 1, 3, -1, 12, -1);
        x.press(0, 0);
        Check.makes(x, 1, 2);
        due("a FLANGE from x 5 to x -7 has a POINT at x 0", x.hits(0), 1);
        FlangeFolder y = Check.folder(2, 5, 1, 3, -1, 5, -1);
        y.press(0, 0);
        Check.makes(y, 1, 2);
        due("the last JOINT is at x 0", y.hits(0), 1);
        FlangeFolder z = Check.folder(2, 5, 1, 3, -1, 4, -1);
        z.press(0, 0);
        Check.makes(z, 1, 2);
        due("the last JOINT is at x 1", z.hits(0), 0);
        due("box(0) by JOINT 0", z.box(0), 0);
        jointZeroBelow();
        jointZeroAbove();
    }

    /** The strip begins at x 2, y -3 as bend 4 lies, goes on to x 5 and round over it: JOINT 0 alone is in reach. */
    private static void jointZeroBelow() {
        for (int way = -1; way <= 1; way += 2) {
            FlangeFolder x = Check.folder(3, 8, way, 10, way, 5, way, 5, way, 2, way);
            x.press(0, 0);
            Check.makes(x, 0, 1, 2, 3);
            x.press(1, 0);
            due("JOINT 0 beyond WIDE", x.hits(4), 0);
            x.press(2, 0);
            due("JOINT 0 at WIDE", x.hits(4), 1);
        }
    }

    /** The strip begins at x 0, y 3 as bend 3 lies, goes up and round to it from the left. */
    private static void jointZeroAbove() {
        for (int way = -1; way <= 1; way += 2) {
            FlangeFolder x = Check.folder(3, 4, way, 6, way, 4, way, 2, way);
            x.press(0, 0);
            Check.makes(x, 0, 1, 2);
            x.press(0, 2);
            due("JOINT 0 beyond HIGH", x.hits(3), 0);
            x.press(0, 3);
            due("JOINT 0 at HIGH", x.hits(3), 2);
        }
    }

    /** The same bend, with 0 to 4 flanges more ahead of it, so that the shape goes each of the four ways there. */
    private static void laid() {
        says("A BEND b that is not MADE: the SHAPE is laid so that its JOINT (JOINT b + 1) is at 0, 0,"
                + " FLANGE b + 1 goes from there along x (turned as a whole, not mirrored).");
        int[][] orders = {{0}, {0, 1}, {0, 2, 1}, {0, 1, 3, 2}, {0, 1, 2, 4, 3}};
        for (int ahead = 0; ahead <= 4; ahead++) {
            for (int side = -1; side <= 1; side += 2) {
                laidWith(ahead, side, orders[ahead]);
            }
        }
    }

    private static void laidWith(int ahead, int side, int[] order) {
        String name = ahead + " ahead, side " + side + ": ";
        FlangeFolder x = hangsAhead(ahead, side, side, order);
        x.press(2, 40);
        due(name + "WIDE 2", x.hits(ahead + 1), 0);
        x.press(3, 40);
        due(name + "WIDE 3", x.hits(ahead + 1), 1);
        FlangeFolder y = hangsAhead(ahead, side, -side, order);
        y.press(3, 40);
        due(name + "the other WAY", y.hits(ahead + 1), 0);
    }

    /** Ahead of its last joint a flange hangs down at x -3, to y -1; all else is beyond that. */
    private static FlangeFolder hangsAhead(int ahead, int side, int lastWay, int[] order) {
        int[] lengths = {2, 3, 6, 4, 1, 3};
        FlangeFolder x = new FlangeFolder();
        x.strip(lengths[4 - ahead]);
        for (int k = 5 - ahead; k <= 5; k++) {
            x.bend(lengths[k], k == 5 ? -side : side, 0);
        }
        x.bend(4, lastWay, 0);
        x.press(0, 0);
        Check.makes(x, order);
        return x;
    }

    /** One flange of LENGTH 1 hangs down, so that y -1 and y 0 alone are there. */
    private static void below() {
        says("It HITS, the first of: 1 a POINT has x from -WIDE to WIDE, and WAY times y is below 0");
        for (int way = -1; way <= 1; way += 2) {
            FlangeFolder x = Check.folder(1, 3, -way, 4, way);
            Check.makes(x, 0);
            x.press(2, 0);
            due("WAY " + way + ": x is -WIDE less 1", x.hits(1), 0);
            x.press(3, 0);
            due("WAY " + way + ": x is -WIDE", x.hits(1), 1);
            FlangeFolder y = Check.folder(4, 3, way, 1, -way);
            Check.makes(y, 1);
            y.press(2, 0);
            due("WAY " + way + ": x is WIDE and 1", y.hits(0), 0);
            y.press(3, 0);
            due("WAY " + way + ": x is WIDE", y.hits(0), 1);
            FlangeFolder z = Check.folder(20, 20, way);
            z.press(20, 40);
            due("WAY " + way + ": y 0 is not below 0", z.hits(0), 0);
            FlangeFolder u = Check.folder(1, 3, way, 4, way);
            Check.makes(u, 0);
            u.press(20, 0);
            due("WAY " + way + ": y 1 is not below 0", u.hits(1), 0);
        }
    }

    /** WIDE 0 and WIDE 20. */
    private static void belowAtWide() {
        FlangeFolder x = Check.folder(4, 20, 1, 1, -1);
        Check.makes(x, 1);
        x.press(19, 0);
        due("WIDE 19, x 20", x.hits(0), 0);
        x.press(20, 0);
        due("WIDE 20, x 20", x.hits(0), 1);
        FlangeFolder y = Check.folder(4, 20, 1, 1, 1, 1, -1);
        Check.makes(y, 2);
        y.press(20, 0);
        due("WIDE 20, x 21", y.hits(0), 0);
        FlangeFolder z = Check.folder(2, 1, 1, 1, -1, 1, -1);
        z.press(0, 0);
        Check.makes(z, 2);
        due("WIDE 0, x 1 and 2 alone are below", z.hits(0), 0);
        due("BEND 1 with y 1 below it", z.hits(1), 0);
        Check.makes(z, 1);
        due("WIDE 0, x 0 is below, too", z.hits(0), 1);
    }

    /** The strip goes 1 on, up, 1 back: it ends at x 0 over the joint. */
    private static void above() {
        says("2 a POINT has x 0, and WAY times y is 1 to HIGH");
        for (int way = -1; way <= 1; way += 2) {
            FlangeFolder x = Check.folder(3, 1, way, 1, way, 1, way);
            x.press(0, 0);
            Check.makes(x, 1, 2);
            due("WAY " + way + ": y 1, HIGH 0", x.hits(0), 3);
            x.press(0, 1);
            due("WAY " + way + ": y 1, HIGH 1", x.hits(0), 2);
            FlangeFolder y = Check.folder(3, 2, way, 5, way, 2, way);
            y.press(0, 0);
            Check.makes(y, 1, 2);
            y.press(0, 4);
            due("WAY " + way + ": y 5, HIGH 4", y.hits(0), 0);
            y.press(0, 5);
            due("WAY " + way + ": y 5, HIGH 5", y.hits(0), 2);
            y.press(0, 6);
            due("WAY " + way + ": y 5, HIGH 6", y.hits(0), 2);
            FlangeFolder z = Check.folder(3, 2, way, 5, way, 1, way);
            z.press(0, 0);
            Check.makes(z, 1, 2);
            z.press(0, 40);
            due("WAY " + way + ": x 1 is not x 0", z.hits(0), 0);
            FlangeFolder u = Check.folder(3, 2, way, 5, -way);
            Check.makes(u, 0);
            u.press(0, 40);
            due("WAY " + way + ": y 0 at the JOINT is not y 1", u.hits(1), 0);
        }
        aheadOfIt();
        comesToTheJoint();
    }

    /** By unmakes() the last flange comes down upon the joint: from y 1 on it is hit, with HIGH 0 nothing is. */
    private static void comesToTheJoint() {
        FlangeFolder x = Check.folder(1, 2, 1, 2, 1, 1, 1, 1, -1, 2, 1);
        x.press(0, 0);
        Check.makes(x, 3, 4, 1, 2);
        x.unmakes(3);
        due("the last JOINT at JOINT 1, x", x.joint(6, 0), 1);
        due("the last JOINT at JOINT 1, y", x.joint(6, 1), 0);
        due("HIGH 0: there is nothing from 1 to 0", x.hits(0), 3);
        x.press(0, 1);
        due("HIGH 1", x.hits(0), 2);
    }

    /** What lies ahead of the bend may be over its joint, as well: from the left it comes up to x -1, x 0, x 1. */
    private static void aheadOfIt() {
        int[] dues = {0, 2, 2};
        for (int n = 0; n < 3; n++) {
            FlangeFolder x = Check.folder(1 + n, 3, 1, 2, 1, 2, 1);
            x.press(0, 0);
            Check.makes(x, 0, 1);
            x.press(0, 3);
            due("FLANGE 0 begins at x " + (n - 1) + ", y 3", x.hits(2), dues[n]);
            x.press(0, 2);
            due("FLANGE 0 begins at x " + (n - 1) + ", y 3, HIGH 2", x.hits(2), 0);
        }
    }

    private static void aboveAtHigh() {
        FlangeFolder x = Check.folder(3, 1, 1, 20, 1, 20, 1, 1, 1);
        x.press(0, 0);
        Check.makes(x, 1, 3);
        x.press(0, 39);
        due("HIGH 39, y 40", x.hits(0), 0);
        x.press(0, 40);
        due("HIGH 40, y 40", x.hits(0), 2);
        FlangeFolder y = Check.folder(3, 1, 1, 20, 1, 20, 1, 1, 1, 1, 1);
        y.press(0, 0);
        Check.makes(y, 1, 4);
        y.press(0, 40);
        due("HIGH 40, y 41", y.hits(0), 0);
    }

    private static void itself() {
        says("3 in the SHAPE with it MADE two places along the strip have one POINT");
        int[][] strips = {{5, 4, 1, 5, 1, 4, 1}, {5, 4, 1, 5, 1, 3, 1}, {5, 4, 1, 5, 1, 5, 1}, {5, 4, 1, 6, 1, 4, 1},
            {5, 4, 1, 6, 1, 20, 1}, {5, 1, 1, 1, 1, 1, 1}, {20, 1, 1, 20, 1}, {5, 2, 1, 4, 1, 2, 1}};
        int[] dues = {3, 0, 3, 0, 0, 3, 0, 3};
        String[] what = {"the ends meet", "the ends are 1 apart", "the last goes through the first", "goes by outside",
            "goes by outside, far", "the least there is", "side by side, 1 apart", "ends upon the first"};
        for (int n = 0; n < strips.length; n++) {
            for (int side = -1; side <= 1; side += 2) {
                FlangeFolder x = told(strips[n], side);
                x.press(0, 0);
                int last = x.count(0) - 1;
                for (int i = 0; i < last; i++) {
                    Check.makes(x, i);
                }
                due(what[n] + ", side " + side, x.hits(last), dues[n]);
                due(what[n] + ", side " + side + ": free()", x.free(), dues[n] == 0 ? 1 << last : 0);
                due(what[n] + ", side " + side + ": ways()", x.ways(), dues[n] == 0 ? 1 : 0);
            }
        }
        alongOneLine();
        eachDirection();
    }

    /** Upon the middle of a flange, and 1 short of it, the flange going each of the four ways. */
    private static void eachDirection() {
        int[] ahead = {2, 3, 6, 5, 2, 3};
        for (int from = 0; from <= 3; from++) {
            for (int side = -1; side <= 1; side += 2) {
                FlangeFolder x = new FlangeFolder();
                x.strip(ahead[from]);
                for (int k = from + 1; k < ahead.length; k++) {
                    x.bend(ahead[k], k <= 3 ? -side : side, 0);
                }
                x.press(0, 0);
                makesAll(x);
                x.bend(1, side, 0);
                due((3 - from) + " ahead, side " + side + ": 1 short", x.hits(5 - from), 0);
                x.back();
                x.bend(2, side, 0);
                due((3 - from) + " ahead, side " + side + ": upon it", x.hits(5 - from), 3);
                due((3 - from) + " ahead, side " + side + ": free()", x.free(), 0);
            }
        }
    }

    private static void makesAll(FlangeFolder x) {
        int bends = x.count(0);
        Check.holds("there is an ORDER ahead of the test", x.orders() > 0);
        for (int k = 0; k < bends; k++) {
            Check.makes(x, x.order(k, 0));
        }
    }

    private static FlangeFolder told(int[] row, int side) {
        FlangeFolder x = new FlangeFolder();
        x.strip(row[0]);
        for (int n = 1; n < row.length; n += 2) {
            x.bend(row[n], side * row[n + 1], 0);
        }
        return x;
    }

    /** The last flange comes back at y 0, where flange 0 lies from x 0 to x 3. */
    private static void alongOneLine() {
        int[] dues = {0, 3, 3};
        for (int n = 0; n < 3; n++) {
            FlangeFolder x = Check.folder(3, 2, 1, 4, -1, 2, -1, 3 + n, -1);
            x.press(0, 0);
            Check.makes(x, 0, 1, 2);
            due("comes back to x " + (4 - n), x.hits(3), dues[n]);
        }
    }

    /** By unmakes() the strip goes through itself far from the bend that is asked for. */
    private static void itselfElsewhere() {
        FlangeFolder x = Check.folder(3, 2, 1, 1, 1, 1, -1, 4, 1, 2, 1);
        x.press(0, 0);
        Check.makes(x, 2, 3, 0, 1);
        due("BEND 4 ahead of it", x.hits(4), 0);
        due("unmakes(2)", x.unmakes(2), 3);
        x.press(0, 40);
        due("BEND 4, the strip through itself at 1, 0", x.hits(4), 3);
        due("free()", x.free() & 16, 0);
    }

    private static void theFirstOf() {
        says("the first of");
        FlangeFolder x = Check.folder(5, 3, -1, 3, 1, 4, 1, 3, 1);
        x.press(0, 0);
        Check.makes(x, 2, 3, 0);
        int[][] presses = {{3, 8, 1}, {2, 8, 2}, {3, 0, 1}, {2, 0, 0}};
        for (int[] p : presses) {
            x.press(p[0], p[1]);
            due("1 and 2, WIDE " + p[0] + ", HIGH " + p[1], x.hits(1), p[2]);
        }
        FlangeFolder y = Check.folder(3, 1, 1, 1, 1, 1, 1);
        y.press(0, 0);
        Check.makes(y, 1, 2);
        due("3 alone", y.hits(0), 3);
        y.press(0, 40);
        due("2 ahead of 3", y.hits(0), 2);
        FlangeFolder z = Check.folder(3, 3, -1, 1, 1, 1, 1, 1, 1);
        z.press(0, 0);
        Check.makes(z, 0, 2, 3);
        int[][] all = {{20, 40, 1}, {3, 0, 1}, {2, 40, 2}, {2, 1, 2}, {2, 0, 3}};
        for (int[] p : all) {
            z.press(p[0], p[1]);
            due("1, 2 and 3, WIDE " + p[0] + ", HIGH " + p[1], z.hits(1), p[2]);
        }
    }

    private static void free() {
        says("Else 0: FREE.");
        FlangeFolder x = Check.folder(20, 20, 1, 20, -1);
        due("hits(0)", x.hits(0), 0);
        due("free()", x.free(), 3);
        due("makes(0)", x.makes(0), 1);
        x.press(20, 40);
        due("hits(1), a hit now", x.hits(1), 1);
        due("free(), a hit now", x.free(), 0);
        Check.refused("makes(1), a hit now", x, Check.NO, y -> y.makes(1));
    }
}
