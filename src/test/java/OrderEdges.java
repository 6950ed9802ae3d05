/** Promises 14 to 18: orders and counts, sentence by sentence. */
final class OrderEdges {
    private static final int LEAST = Integer.MIN_VALUE;
    private static final int MOST = Integer.MAX_VALUE;

    private OrderEdges() {
    }

    static void run() {
        orders();
        ordersToldAnew();
        order();
        orderNone();
        orderRefused();
        changes();
        ways();
        count();
        countRefused();
    }

    private static void says(int promise, String words) {
        Document.says("Promise " + promise, words);
    }

    private static void due(String call, long got, long want) {
        Check.due(call, got, want);
    }

    private static FlangeFolder noOrder() {
        return Check.folder(3, 1, 1, 3, -1);
    }

    private static void orders() {
        says(14, "ORDERS.");
        Check.onlyTells("without BENDS", new FlangeFolder(), 1, FlangeFolder::orders);
        Check.onlyTells("none", noOrder(), 0, FlangeFolder::orders);
        int[] rows = {1, 1, 2, 6, 24, 120, 720};
        for (int n = 0; n <= 6; n++) {
            Check.onlyTells("all rows of " + n, Check.anyRow(new int[n]), rows[n], FlangeFolder::orders);
        }
        FlangeFolder x = Check.anyRow(0, 1, 2, 0, 1, 2);
        Check.makes(x, 5, 4, 3, 2, 1, 0);
        due("all MADE, from none MADE on", x.orders(), 720);
    }

    /** Whatever they come from becomes other: they are other at once. */
    private static void ordersToldAnew() {
        FlangeFolder x = noOrder();
        due("noOrder(): orders()", x.orders(), 0);
        x.press(0, 0);
        due("behind press(0, 0)", x.orders(), 2);
        x.back();
        due("behind back()", x.orders(), 0);
        x.strip(20);
        due("behind strip()", x.orders(), 1);
        x.bend(20, 1, 0);
        x.bend(20, -1, 0);
        due("behind bend()", x.orders(), 2);
        Check.does(x, "s3;b1 0 0;b3 1 0;", 3);
        due("behind does()", x.orders(), 0);
        Check.does(x, "p0 0;m0;m0;", -2002);
        due("behind does() that ends all", x.orders(), 0);
        due("hits() behind does() that ends all", x.hits(0), 0);
        due("free() behind does() that ends all", x.free(), 3);
    }

    private static void order() {
        says(15, "The k-th BEND (0 on) of the FIRST ORDER (what 0), of BEST (1)");
        FlangeFolder x = Check.anyRow(0, 1, 2, 0, 1, 2);
        int[] best = {0, 3, 1, 4, 2, 5};
        for (int k = 0; k < 6; k++) {
            due("order(" + k + ", 0)", x.order(k, 0), k);
            due("order(" + k + ", 1)", x.order(k, 1), best[k]);
        }
        FlangeFolder one = Check.anyRow(2);
        due("of one BEND: order(0, 0)", one.order(0, 0), 0);
        due("of one BEND: order(0, 1)", one.order(0, 1), 0);
        Check.makes(x, 4, 5);
        due("whatever is MADE: order(5, 0)", x.order(5, 0), 5);
        due("whatever is MADE: order(1, 1)", x.order(1, 1), 3);
    }

    private static void orderNone() {
        says(15, "NONE: there is no ORDER.");
        FlangeFolder x = noOrder();
        for (int k = 0; k < 2; k++) {
            int at = k;
            Check.onlyTells("order(" + k + ", 0)", x, Check.NONE, y -> y.order(at, 0));
            Check.onlyTells("order(" + k + ", 1)", x, Check.NONE, y -> y.order(at, 1));
        }
        x.press(0, 0);
        due("with a press that lets them be: order(1, 0)", x.order(1, 0), 1);
    }

    private static void orderRefused() {
        says(15, "BAD: k not one of 0 to BENDS less 1, too.");
        FlangeFolder six = Check.sixBends();
        for (int k : new int[] {6, -1, 32, LEAST, MOST}) {
            Check.refused("order(" + k + ", 0) of six", six, Check.BAD, y -> y.order(k, 0));
            Check.refused("order(" + k + ", 1) of six", six, Check.BAD, y -> y.order(k, 1));
        }
        for (int what : new int[] {2, -1, LEAST, MOST}) {
            Check.refused("order(5, " + what + ")", six, Check.BAD, y -> y.order(5, what));
        }
        Check.refused("order(0, 0) without BENDS", new FlangeFolder(), Check.BAD, y -> y.order(0, 0));
        Check.refused("order(1, 0) of one", Check.anyRow(0), Check.BAD, y -> y.order(1, 0));
        Check.refused("order(2, 0) with no ORDER", noOrder(), Check.BAD, y -> y.order(2, 0));
        Check.refused("order(0, 2) with no ORDER", noOrder(), Check.BAD, y -> y.order(0, 2));
    }

    private static void changes() {
        says(16, "CHANGES of BEST (what 0), of the FIRST ORDER (1)");
        FlangeFolder x = Check.anyRow(0, 1, 0, 1, 0, 1);
        Check.onlyTells("of BEST", x, 1, y -> y.changes(0));
        Check.onlyTells("of the FIRST", x, 5, y -> y.changes(1));
        due("without BENDS, of BEST", new FlangeFolder().changes(0), 0);
        due("without BENDS, of the FIRST", new FlangeFolder().changes(1), 0);
        due("of one BEND, of BEST", Check.anyRow(2).changes(0), 0);
        due("of one BEND, of the FIRST", Check.anyRow(2).changes(1), 0);
        says(16, "NONE: there is no ORDER.");
        Check.onlyTells("of BEST", noOrder(), Check.NONE, y -> y.changes(0));
        Check.onlyTells("of the FIRST", noOrder(), Check.NONE, y -> y.changes(1));
        says(16, "BAD.");
        for (int what : new int[] {2, -1, LEAST, MOST}) {
            Check.refused("changes(" + what + ")", x, Check.BAD, y -> y.changes(what));
            Check.refused("changes(" + what + ") with no ORDER", noOrder(), Check.BAD, y -> y.changes(what));
        }
    }

    private static void ways() {
        says(17, "How many ways there are to make all that are not MADE yet, each FREE when its turn comes, from the"
                + " SHAPE as it is.");
        Check.onlyTells("without BENDS", new FlangeFolder(), 1, FlangeFolder::ways);
        FlangeFolder x = Check.anyRow(0, 1, 2, 0, 1, 2);
        int[] left = {720, 120, 24, 6, 2, 1, 1};
        int[] order = {4, 1, 5, 0, 3, 2};
        for (int n = 0; n < 6; n++) {
            due(n + " MADE", x.ways(), left[n]);
            Check.makes(x, order[n]);
        }
        Check.onlyTells("all MADE", x, 1, FlangeFolder::ways);
        x.press(20, 40);
        due("all MADE, whatever the press is", x.ways(), 1);
        x.unmakes(0);
        due("one that is FREE is left", x.ways(), 1);
        Check.onlyTells("none", noOrder(), 0, FlangeFolder::ways);
        wherePressAndOrdersDiffer();
    }

    /** From what is made there are ways, though there is no order under the press that is now. */
    private static void wherePressAndOrdersDiffer() {
        FlangeFolder x = noOrder();
        x.press(0, 0);
        Check.makes(x, 0, 1);
        x.press(2, 8);
        due("orders()", x.orders(), 0);
        due("ways() with all MADE", x.ways(), 1);
        x.unmakes(1);
        due("ways() with one that HITS", x.ways(), 0);
        x.press(0, 0);
        due("ways() with one that is FREE", x.ways(), 1);
        x.again();
        due("ways() from none MADE", x.ways(), 2);
    }

    private static void count() {
        says(18, "BENDS (what 0), MADE ones (1), those as bits (2), WIDE (3), HIGH (4), what TOOLS TAKE (5 to 7),"
                + " BLANK (8), NOW LONG (9), all LENGTHS (10).");
        counts("new", new FlangeFolder(), 0, 0, 0, 2, 8, 3, 5, 8, 50, 50, 5);
        FlangeFolder x = Check.anyRow(0, 1, 2, 0, 1, 2);
        counts("none MADE", x, 6, 0, 0, 0, 0, 3, 5, 8, 650 - 32, 650, 65);
        Check.makes(x, 5);
        counts("the last MADE", x, 6, 1, 32, 0, 0, 3, 5, 8, 650 - 32, 650 - 8, 65);
        Check.makes(x, 0, 1, 2, 3, 4);
        x.takes(0, 99);
        x.takes(1, 0);
        x.takes(2, 98);
        x.press(20, 40);
        counts("all MADE", x, 6, 6, 63, 20, 40, 99, 0, 98, 650 - 394, 650 - 394, 65);
        counts("longest", Check.folder(20, 20, 1, 20, 1, 20, 1, 20, 1, 20, 1, 20, 1), 6, 0, 0, 2, 8, 3, 5, 8,
                1400 - 18, 1400, 140);
        counts("shortest", Check.folder(1), 0, 0, 0, 2, 8, 3, 5, 8, 10, 10, 1);
    }

    private static void counts(String name, FlangeFolder x, int... dues) {
        for (int what = 0; what < dues.length; what++) {
            due(name + ": count(" + what + ")", x.count(what), dues[what]);
        }
    }

    private static void countRefused() {
        says(18, "BAD.");
        FlangeFolder x = Check.anyRow(0, 1, 2);
        for (int what : new int[] {-1, 11, 12, 16, LEAST, MOST}) {
            Check.refused("count(" + what + ")", x, Check.BAD, y -> y.count(what));
        }
    }
}
