import java.util.ArrayList;
import java.util.List;

/** The boundary cases that 'Terms' names of ORDERS, CHANGES, BLANK and NOW LONG, sentence by sentence. */
final class OrderTerms {
    /** WIDE, HIGH, LENGTH of FLANGE 0; then of each BEND the LENGTH behind it, WAY, TOOL. */
    private static final int[][] STRIPS = {
        {2, 8, 5},
        {2, 8, 5, 4, 1, 0},
        {2, 8, 3, 1, 1, 0, 3, -1, 0},
        {0, 0, 1, 1, 1, 0, 1, 1, 0, 1, 1, 0},
        {2, 4, 1, 4, 1, 2, 3, 1, 2, 3, -1, 0},
        {2, 3, 4, 1, -1, 1, 3, -1, 2, 1, 1, 1, 3, 1, 2},
        {0, 0, 10, 3, 1, 0, 1, -1, 1, 3, -1, 0, 10, 1, 2},
        {1, 5, 6, 2, 1, 0, 5, 1, 1, 2, -1, 1, 7, -1, 0, 3, 1, 2},
        {0, 0, 1, 1, 1, 0, 2, 1, 1, 2, 1, 2, 3, 1, 0, 3, 1, 1, 4, 1, 2},
        {0, 0, 1, 2, 1, 0, 3, 1, 0, 5, 1, 2, 6, 1, 1, 4, 1, 2},
        {0, 0, 9, 4, -1, 0, 12, -1, 1, 13, 1, 2, 16, -1, 0, 7, -1, 1, 4, -1, 2}};

    private static final int ONE_BEND = 1;
    private static final int NO_ORDER = 2;
    private static final int CLOSES = 3;
    private static final int BEST_BEGINS_LATER = 4;
    private static final int LEAST_LEADS_NOWHERE = 5;
    private static final int ANY_ROW = STRIPS.length - 1;

    private OrderTerms() {
    }

    static void run() {
        orders();
        fromNoneMadeOn();
        howMany();
        first();
        changes();
        best();
        blank();
        nowLong();
    }

    private static void says(String words) {
        Document.says("Terms", words);
    }

    private static void due(String call, long got, long want) {
        Check.due(call, got, want);
    }

    private static FlangeFolder told(int[] strip) {
        FlangeFolder x = new FlangeFolder();
        x.strip(strip[2]);
        for (int n = 3; n < strip.length; n += 3) {
            x.bend(strip[n], strip[n + 1], strip[n + 2]);
        }
        x.press(strip[0], strip[1]);
        return x;
    }

    /** Every row of all bends is tried by makes() on an object of its own. */
    private static void orders() {
        says("An ORDER: all BENDS, each once, from none MADE on, each FREE when its turn comes.");
        for (int n = 0; n < STRIPS.length; n++) {
            List<List<Integer>> rows = new ArrayList<>();
            rowsOf(STRIPS[n].length / 3 - 1, new ArrayList<>(), rows);
            List<List<Integer>> found = new ArrayList<>();
            for (List<Integer> row : rows) {
                if (goesThrough(STRIPS[n], row)) {
                    found.add(row);
                }
            }
            due("strip " + n + ": orders()", told(STRIPS[n]).orders(), found.size());
            compare("strip " + n + ": ", STRIPS[n], found);
        }
    }

    /** All rows of the numbers 0 to n - 1, each once, the least first. */
    private static void rowsOf(int n, List<Integer> soFar, List<List<Integer>> rows) {
        if (soFar.size() == n) {
            rows.add(List.copyOf(soFar));
        }
        for (int i = 0; i < n; i++) {
            if (!soFar.contains(i)) {
                soFar.add(i);
                rowsOf(n, soFar, rows);
                soFar.remove(soFar.size() - 1);
            }
        }
    }

    private static boolean goesThrough(int[] strip, List<Integer> row) {
        FlangeFolder x = told(strip);
        for (int k = 0; k < row.size(); k++) {
            if (x.makes(row.get(k)) != k + 1) {
                return false;
            }
        }
        return true;
    }

    private static void compare(String name, int[] strip, List<List<Integer>> found) {
        FlangeFolder x = told(strip);
        if (found.isEmpty()) {
            due(name + "order(0, 0)", x.order(0, 0), Check.NONE);
            due(name + "order(0, 1)", x.order(0, 1), Check.NONE);
            due(name + "changes(0)", x.changes(0), Check.NONE);
            due(name + "changes(1)", x.changes(1), Check.NONE);
            return;
        }
        List<Integer> first = found.get(0);
        List<Integer> best = first;
        for (List<Integer> row : found) {
            best = changesOf(strip, row) < changesOf(strip, best) ? row : best;
        }
        for (int k = 0; k < first.size(); k++) {
            due(name + "order(" + k + ", 0)", x.order(k, 0), first.get(k));
            due(name + "order(" + k + ", 1)", x.order(k, 1), best.get(k));
        }
        due(name + "changes(0)", x.changes(0), changesOf(strip, best));
        due(name + "changes(1)", x.changes(1), changesOf(strip, first));
    }

    private static int changesOf(int[] strip, List<Integer> row) {
        int n = 0;
        for (int k = 1; k < row.size(); k++) {
            n += toolOf(strip, row.get(k)) == toolOf(strip, row.get(k - 1)) ? 0 : 1;
        }
        return n;
    }

    private static int toolOf(int[] strip, int bend) {
        return strip[5 + 3 * bend];
    }

    private static void fromNoneMadeOn() {
        FlangeFolder x = told(STRIPS[LEAST_LEADS_NOWHERE]);
        due("orders() with none MADE", x.orders(), 4);
        Check.makes(x, 0);
        due("orders() with one MADE from which no ORDER goes on", x.orders(), 4);
        due("order(0, 0)", x.order(0, 0), 1);
        due("order(1, 1)", x.order(1, 1), 3);
        due("ways() from there", x.ways(), 0);
        FlangeFolder y = told(STRIPS[ONE_BEND]);
        Check.makes(y, 0);
        due("orders() with all MADE", y.orders(), 1);
        due("order(0, 0) with all MADE", y.order(0, 0), 0);
    }

    private static void howMany() {
        says("ORDERS: how many there are (1 without BENDS).");
        FlangeFolder x = new FlangeFolder();
        due("orders() without BENDS", x.orders(), 1);
        due("none, for the last would hit the press", told(STRIPS[NO_ORDER]).orders(), 0);
        due("none, for the last would hit the strip", told(STRIPS[CLOSES]).orders(), 0);
        due("every row of six", told(STRIPS[ANY_ROW]).orders(), 720);
        x.bend(4, 1, 0);
        x.strip(9);
        due("orders() without BENDS any more", x.orders(), 1);
    }

    /** 0 is free at once, but no order begins with it. */
    private static void first() {
        says("The FIRST: that with the least BEND first, then the second, and so on.");
        FlangeFolder x = told(STRIPS[LEAST_LEADS_NOWHERE]);
        due("free()", x.free(), 15);
        order("BEND 0 leads to nothing", x, 0, 1, 2, 3, 0);
        order("behind BEND 0 comes 2, for 1 leads to nothing", told(STRIPS[BEST_BEGINS_LATER]), 0, 0, 2, 1);
        order("all rows", told(STRIPS[ANY_ROW]), 0, 0, 1, 2, 3, 4, 5);
    }

    private static void order(String name, FlangeFolder x, int what, int... bends) {
        for (int k = 0; k < bends.length; k++) {
            due(name + ": order(" + k + ", " + what + ")", x.order(k, what), bends[k]);
        }
    }

    private static void changes() {
        says("CHANGES of an ORDER: how often the TOOL of a BEND is not that of the one ahead.");
        int[][] tools = {{}, {0}, {2}, {0, 0}, {0, 1}, {2, 0}, {1, 1, 1, 1, 1, 1}, {0, 1, 0, 1, 0, 1},
            {0, 0, 0, 2, 2, 2}, {0, 1, 2, 0, 1, 2}};
        int[] ofFirst = {0, 0, 0, 0, 1, 1, 0, 5, 1, 5};
        int[] ofBest = {0, 0, 0, 0, 1, 1, 0, 1, 1, 2};
        for (int n = 0; n < tools.length; n++) {
            FlangeFolder x = Check.anyRow(tools[n]);
            due("row " + n + ": of the FIRST", x.changes(1), ofFirst[n]);
            due("row " + n + ": of BEST", x.changes(0), ofBest[n]);
        }
    }

    private static void best() {
        says("BEST: of ORDERS with the fewest CHANGES that which is the first.");
        order("one TOOL", Check.anyRow(1, 1, 1, 1, 1, 1), 1, 0, 1, 2, 3, 4, 5);
        order("two TOOLS by turns", Check.anyRow(0, 1, 0, 1, 0, 1), 1, 0, 2, 4, 1, 3, 5);
        order("three TOOLS by turns", Check.anyRow(2, 1, 0, 2, 1, 0), 1, 0, 3, 1, 4, 2, 5);
        order("all have one change", Check.anyRow(1, 0), 1, 0, 1);
        order("0, 3, 1, 2 ahead of 1, 2, 0, 3", Check.anyRow(0, 1, 1, 0), 1, 0, 3, 1, 2);
        order("the least BEND is not the first of it", told(STRIPS[BEST_BEGINS_LATER]), 1, 2, 0, 1);
        due("its CHANGES", told(STRIPS[BEST_BEGINS_LATER]).changes(0), 1);
        order("of few", told(STRIPS[LEAST_LEADS_NOWHERE]), 1, 1, 3, 2, 0);
        due("CHANGES of few", told(STRIPS[LEAST_LEADS_NOWHERE]).changes(0), 1);
    }

    private static void blank() {
        says("BLANK: 10 times all LENGTHS, less what the TOOLS of all BENDS TAKE.");
        FlangeFolder x = new FlangeFolder();
        due("without BENDS", x.count(8), 50);
        FlangeFolder least = Check.folder(1, 1, 1, 1, 1, 1, 1, 1, 1, 1, 1, 1, 1);
        least.takes(0, 99);
        due("the least there can be", least.count(8), 70 - 6 * 99);
        FlangeFolder most = Check.folder(20, 20, 1, 20, 1, 20, 1, 20, 1, 20, 1, 20, 1);
        most.takes(0, 0);
        due("the greatest there can be", most.count(8), 1400);
        FlangeFolder y = Check.anyRow(0, 1, 2, 1);
        due("by each TOOL", y.count(8), 10 * (9 + 4 + 12 + 13 + 16) - 3 - 5 - 8 - 5);
        Check.makes(y, 2);
        due("MADE or not", y.count(8), 540 - 21);
        y.takes(1, 40);
        due("by what TOOLS TAKE now", y.count(8), 540 - 3 - 40 - 8 - 40);
    }

    private static void nowLong() {
        says("NOW LONG: 10 times all LENGTHS, less what those of MADE ones TAKE.");
        due("without BENDS", new FlangeFolder().count(9), 50);
        FlangeFolder x = Check.anyRow(0, 1, 2, 1, 0, 2);
        int all = 10 * (9 + 4 + 12 + 13 + 16 + 7 + 4);
        due("none MADE", x.count(9), all);
        int[] takes = {3, 5, 8, 5, 3, 8};
        int left = all;
        for (int i = 5; i >= 0; i--) {
            Check.makes(x, i);
            left -= takes[i];
            due("MADE from BEND " + i + " on", x.count(9), left);
        }
        due("all MADE, as BLANK", x.count(9), x.count(8));
        x.unmakes(2);
        due("one not MADE any more", x.count(9), left + 8);
        FlangeFolder y = Check.folder(1, 1, 1);
        Check.makes(y, 0);
        y.takes(0, 99);
        due("below 0", y.count(9), 20 - 99);
    }
}
