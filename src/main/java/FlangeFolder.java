import java.util.Arrays;

/** A sheet bent flange by flange; ../shared/DOC.md says what each call promises. */
public final class FlangeFolder {
    public static final int NONE = -1000, BAD = -1001, NO = -1002, FULL = -1003;

    private static final int MOST_BENDS = 6;
    private static final int MOST_FLANGES = MOST_BENDS + 1;
    private static final int MOST_MASKS = 1 << MOST_BENDS;
    private static final int MOST_LENGTH = 20;
    private static final int MOST_WIDE = 20;
    private static final int MOST_HIGH = 40;
    private static final int MOST_TAKEN = 99;
    private static final int TOOLS = 3;
    private static final int MOST_BYTES = 120;
    private static final int MOST_STATES = 5;

    private static final int HITS_BELOW = 1;
    private static final int HITS_ABOVE = 2;
    private static final int HITS_ITSELF = 3;

    private static final int BY_FAULT = -10;
    private static final int BY_REFUSAL = -2000;
    private static final long DIGEST_START = 2934L;

    private final Sheet sheet;
    private final Shape shape;
    private final Planner planner;
    private final Worker worker;
    private final History history;
    private final Script script;
    private int badCalls;
    private int noCalls;
    private int fullCalls;

    public FlangeFolder() {
        sheet = new Sheet();
        shape = new Shape();
        planner = new Planner(sheet, shape);
        worker = new Worker(sheet, planner);
        history = new History();
        script = new Script();
        badCalls = 0;
        noCalls = 0;
        fullCalls = 0;
    }

    // ---- what is told in

    public int strip(int l) {
        history.stage(sheet);
        return settled(worker.newStrip(l));
    }

    public int bend(int l, int w, int t) {
        history.stage(sheet);
        return settled(worker.addBend(l, w, t));
    }

    public int press(int w, int h) {
        history.stage(sheet);
        return settled(worker.setPress(w, h));
    }

    public int takes(int t, int n) {
        history.stage(sheet);
        return settled(worker.setTaken(t, n));
    }

    public int makes(int i) {
        history.stage(sheet);
        return settled(worker.makeBend(i));
    }

    public int unmakes(int i) {
        history.stage(sheet);
        return settled(worker.unmakeBend(i));
    }

    public int again() {
        history.stage(sheet);
        return settled(worker.unmakeAll());
    }

    // ---- the shape

    public int of(int i, int what) {
        if (!sheet.hasBend(i)) {
            return refused(BAD);
        }
        switch (what) {
            case 0: return sheet.lengths[i + 1];
            case 1: return sheet.turns[i];
            case 2: return sheet.tools[i];
            case 3: return sheet.isMade(i) ? 1 : 0;
            default: return refused(BAD);
        }
    }

    public int joint(int k, int what) {
        if (!isWithin(k, 0, sheet.bends + 1) || !isWithin(what, 0, 1)) {
            return refused(BAD);
        }
        shape.trace(sheet, sheet.made);
        return what == 0 ? shape.x[k] : shape.y[k];
    }

    public int box(int what) {
        if (!isWithin(what, 0, 3)) {
            return refused(BAD);
        }
        shape.trace(sheet, sheet.made);
        int[] row = what % 2 == 0 ? shape.x : shape.y;
        return what < 2 ? shape.least(row) : shape.greatest(row);
    }

    public int hits(int i) {
        if (!sheet.hasBend(i)) {
            return refused(BAD);
        }
        if (sheet.isMade(i)) {
            return refused(NO);
        }
        return planner.hitOf(sheet.made, i);
    }

    public int free() {
        return planner.freeAt(sheet.made);
    }

    // ---- orders

    public int orders() {
        planner.plan();
        return planner.orderCount;
    }

    public int order(int k, int what) {
        if (!sheet.hasBend(k) || !isWithin(what, 0, 1)) {
            return refused(BAD);
        }
        planner.plan();
        return what == 0 ? planner.firstOrder[k] : planner.bestOrder[k];
    }

    public int changes(int what) {
        if (!isWithin(what, 0, 1)) {
            return refused(BAD);
        }
        planner.plan();
        return what == 0 ? planner.bestChanges : planner.firstChanges;
    }

    public int ways() {
        return planner.pathsFrom(sheet.made);
    }

    public int count(int what) {
        switch (what) {
            case 0: return sheet.bends;
            case 1: return Integer.bitCount(sheet.made);
            case 2: return sheet.made;
            case 3: return sheet.wide;
            case 4: return sheet.high;
            case 5: return sheet.taken[0];
            case 6: return sheet.taken[1];
            case 7: return sheet.taken[2];
            case 8: return sheet.lengthLess(sheet.allBends());
            case 9: return sheet.lengthLess(sheet.made);
            case 10: return sheet.allLengths();
            default: return refused(BAD);
        }
    }

    // ---- texts

    public int type(int c) {
        if (!isWithin(c, 0, 127)) {
            return refused(BAD);
        }
        if (script.size >= MOST_BYTES) {
            return refused(FULL);
        }
        script.append(c);
        return script.size;
    }

    public int clear() {
        int had = script.size;
        script.size = 0;
        return had;
    }

    public int does() {
        int fault = script.read();
        if (fault != Script.NO_FAULT) {
            return BY_FAULT - fault;
        }
        history.stage(sheet);
        for (int n = 0; n < script.orderCount; n++) {
            if (isRefusal(worker.perform(script, n))) {
                history.restoreStaged(sheet);
                planner.forget();
                return BY_REFUSAL - n;
            }
        }
        history.keepStaged();
        return script.orderCount;
    }

    public int back() {
        if (history.kept == 0) {
            return refused(NO);
        }
        history.restoreLast(sheet);
        planner.forget();
        return history.kept;
    }

    public int told(int what) {
        switch (what) {
            case 0: return badCalls;
            case 1: return noCalls;
            case 2: return fullCalls;
            case 3: return script.size;
            case 4: return history.kept;
            default: return refused(BAD);
        }
    }

    public long digest() {
        long h = DIGEST_START;
        for (int what = 0; what <= 4; what++) {
            h = 31L * h + told(what);
        }
        for (int what = 0; what <= 10; what++) {
            h = 31L * h + count(what);
        }
        h = 31L * h + sheet.lengths[0];
        for (int i = 0; i < sheet.bends; i++) {
            for (int what = 0; what <= 3; what++) {
                h = 31L * h + of(i, what);
            }
        }
        for (int k = 0; k <= sheet.bends + 1; k++) {
            h = 31L * h + joint(k, 0);
            h = 31L * h + joint(k, 1);
        }
        for (int what = 0; what <= 3; what++) {
            h = 31L * h + box(what);
        }
        planner.plan();
        h = 31L * h + planner.freeAt(sheet.made);
        h = 31L * h + planner.orderCount;
        h = 31L * h + planner.bestChanges;
        h = 31L * h + planner.firstChanges;
        return 31L * h + planner.pathsFrom(sheet.made);
    }

    // ---- what the calls share

    private static boolean isWithin(int n, int least, int most) {
        return n >= least && n <= most;
    }

    private static boolean isRefusal(int answer) {
        return answer == BAD || answer == NO || answer == FULL;
    }

    private int refused(int why) {
        if (why == BAD) {
            badCalls++;
        } else if (why == NO) {
            noCalls++;
        } else {
            fullCalls++;
        }
        return why;
    }

    /** Ends a call that was staged: a refused one is counted, any other leaves a state. */
    private int settled(int answer) {
        if (isRefusal(answer)) {
            return refused(answer);
        }
        history.keepStaged();
        return answer;
    }

    /** All that back() brings again. */
    private static final class Sheet {
        final int[] lengths = new int[MOST_FLANGES];
        final int[] turns = new int[MOST_BENDS];
        final int[] tools = new int[MOST_BENDS];
        final int[] taken = {3, 5, 8};
        int bends;
        int made;
        int wide;
        int high;

        Sheet() {
            lengths[0] = 5;
            bends = 0;
            made = 0;
            wide = 2;
            high = 8;
        }

        void copyFrom(Sheet other) {
            System.arraycopy(other.lengths, 0, lengths, 0, MOST_FLANGES);
            System.arraycopy(other.turns, 0, turns, 0, MOST_BENDS);
            System.arraycopy(other.tools, 0, tools, 0, MOST_BENDS);
            System.arraycopy(other.taken, 0, taken, 0, TOOLS);
            bends = other.bends;
            made = other.made;
            wide = other.wide;
            high = other.high;
        }

        boolean hasBend(int i) {
            return i >= 0 && i < bends;
        }

        boolean isMade(int i) {
            return (made >> i & 1) == 1;
        }

        int allBends() {
            return (1 << bends) - 1;
        }

        int allLengths() {
            int sum = 0;
            for (int k = 0; k <= bends; k++) {
                sum += lengths[k];
            }
            return sum;
        }

        int lengthLess(int mask) {
            int left = 10 * allLengths();
            for (int i = 0; i < bends; i++) {
                if ((mask >> i & 1) == 1) {
                    left -= taken[tools[i]];
                }
            }
            return left;
        }
    }

    /** Where the joints are when the bends of a mask are made. */
    private static final class Shape {
        private static final int[] STEP_X = {1, 0, -1, 0};
        private static final int[] STEP_Y = {0, 1, 0, -1};

        final int[] x = new int[MOST_FLANGES + 1];
        final int[] y = new int[MOST_FLANGES + 1];
        final int[] headings = new int[MOST_FLANGES];
        int flanges;

        Shape() {
            flanges = 0;
        }

        void trace(Sheet sheet, int mask) {
            flanges = sheet.bends + 1;
            int heading = 0;
            for (int k = 0; k < flanges; k++) {
                headings[k] = heading;
                x[k + 1] = x[k] + sheet.lengths[k] * STEP_X[heading];
                y[k + 1] = y[k] + sheet.lengths[k] * STEP_Y[heading];
                if (k < sheet.bends && (mask >> k & 1) == 1) {
                    heading = heading + sheet.turns[k] & 3;
                }
            }
        }

        int least(int[] row) {
            int found = row[0];
            for (int k = 1; k <= flanges; k++) {
                found = Math.min(found, row[k]);
            }
            return found;
        }

        int greatest(int[] row) {
            int found = row[0];
            for (int k = 1; k <= flanges; k++) {
                found = Math.max(found, row[k]);
            }
            return found;
        }

        /** Neighbours meet in their joint alone, and one flange between two keeps them apart, however it is bent. */
        boolean crossesItself() {
            for (int i = 0; i < flanges; i++) {
                int left = Math.min(x[i], x[i + 1]);
                int right = Math.max(x[i], x[i + 1]);
                int low = Math.min(y[i], y[i + 1]);
                int top = Math.max(y[i], y[i + 1]);
                for (int j = i + 3; j < flanges; j++) {
                    if (reaches(x[j], x[j + 1], left, right) && reaches(y[j], y[j + 1], low, top)) {
                        return true;
                    }
                }
            }
            return false;
        }

        /** What of the press bend b would hit, the shape laid with flange b + 1 along x; 0: nothing. */
        int pressHit(Sheet sheet, int b) {
            int way = sheet.turns[b];
            int alongX = STEP_X[headings[b + 1]];
            int alongY = STEP_Y[headings[b + 1]];
            boolean above = false;
            int lastX = 0;
            int lastY = 0;
            for (int k = 0; k <= flanges; k++) {
                int fromX = x[k] - x[b + 1];
                int fromY = y[k] - y[b + 1];
                int laidX = fromX * alongX + fromY * alongY;
                int laidY = way * (fromY * alongX - fromX * alongY);
                if (k > 0 && Math.min(lastY, laidY) < 0 && reaches(lastX, laidX, -sheet.wide, sheet.wide)) {
                    return HITS_BELOW;
                }
                if (k > 0 && sheet.high > 0 && reaches(lastX, laidX, 0, 0)
                        && reaches(lastY, laidY, 1, sheet.high)) {
                    above = true;
                }
                lastX = laidX;
                lastY = laidY;
            }
            return above ? HITS_ABOVE : 0;
        }

        /** Whether something between a and b, whichever is the lesser, lies from least to most. */
        private static boolean reaches(int a, int b, int least, int most) {
            return (a <= most || b <= most) && (a >= least || b >= least);
        }
    }

    /** Which bends are free at each mask of made ones, and the orders that come of it. */
    private static final class Planner {
        private static final int UNKNOWN = -1;
        private static final int NO_TOOL = TOOLS;
        private static final int TOOL_STATES = TOOLS + 1;
        private static final int NEVER = 1000;

        private final Sheet sheet;
        private final Shape shape;
        private final int[] freeBits = new int[MOST_MASKS];
        private final int[] crossings = new int[MOST_MASKS];
        private final int[] paths = new int[MOST_MASKS];
        private final int[] fewest = new int[MOST_MASKS * TOOL_STATES];
        private boolean planned;
        final int[] firstOrder = new int[MOST_BENDS];
        final int[] bestOrder = new int[MOST_BENDS];
        int orderCount;
        int firstChanges;
        int bestChanges;

        Planner(Sheet sheet, Shape shape) {
            this.sheet = sheet;
            this.shape = shape;
            Arrays.fill(freeBits, UNKNOWN);
            Arrays.fill(crossings, UNKNOWN);
            planned = false;
            orderCount = 0;
            firstChanges = 0;
            bestChanges = 0;
        }

        /** To be called when flanges, bends or the press become other; made bends and takes do not matter. */
        void forget() {
            Arrays.fill(freeBits, UNKNOWN);
            Arrays.fill(crossings, UNKNOWN);
            planned = false;
        }

        int hitOf(int mask, int b) {
            shape.trace(sheet, mask);
            int hit = shape.pressHit(sheet, b);
            if (hit != 0) {
                return hit;
            }
            return crossesAt(mask | 1 << b) ? HITS_ITSELF : 0;
        }

        int freeAt(int mask) {
            if (freeBits[mask] != UNKNOWN) {
                return freeBits[mask];
            }
            int found = 0;
            shape.trace(sheet, mask);
            for (int b = 0; b < sheet.bends; b++) {
                if ((mask >> b & 1) == 0 && shape.pressHit(sheet, b) == 0) {
                    found |= 1 << b;
                }
            }
            for (int b = 0; b < sheet.bends; b++) {
                if ((found >> b & 1) == 1 && crossesAt(mask | 1 << b)) {
                    found -= 1 << b;
                }
            }
            freeBits[mask] = found;
            return found;
        }

        private boolean crossesAt(int mask) {
            if (crossings[mask] == UNKNOWN) {
                shape.trace(sheet, mask);
                crossings[mask] = shape.crossesItself() ? 1 : 0;
            }
            return crossings[mask] == 1;
        }

        /** In how many ways all bends can come to be made from a mask on; leaves in paths the masks met. */
        int pathsFrom(int start) {
            int all = sheet.allBends();
            Arrays.fill(paths, 0);
            paths[start] = 1;
            for (int mask = start; mask < all; mask++) {
                if (paths[mask] == 0) {
                    continue;
                }
                int bits = freeAt(mask);
                for (int b = 0; b < sheet.bends; b++) {
                    if ((bits >> b & 1) == 1) {
                        paths[mask | 1 << b] += paths[mask];
                    }
                }
            }
            return paths[all];
        }

        /** Finds the orders, unless they are known; NONE stands where there is none. */
        void plan() {
            if (planned) {
                return;
            }
            planned = true;
            orderCount = pathsFrom(0);
            if (orderCount == 0) {
                Arrays.fill(firstOrder, NONE);
                Arrays.fill(bestOrder, NONE);
                firstChanges = NONE;
                bestChanges = NONE;
                return;
            }
            findFewest();
            firstChanges = walk(firstOrder, false);
            bestChanges = walk(bestOrder, true);
        }

        /** Of each mask that pathsFrom met, and each tool of the bend ahead; freeBits of those are known. */
        private void findFewest() {
            int all = sheet.allBends();
            Arrays.fill(fewest, NEVER);
            for (int tool = 0; tool < TOOL_STATES; tool++) {
                fewest[all * TOOL_STATES + tool] = 0;
            }
            for (int mask = all - 1; mask >= 0; mask--) {
                for (int tool = 0; tool < TOOL_STATES && paths[mask] > 0; tool++) {
                    fewest[mask * TOOL_STATES + tool] = fewestFrom(mask, tool);
                }
            }
        }

        private int fewestFrom(int mask, int tool) {
            int bits = freeBits[mask];
            int least = NEVER;
            for (int b = 0; b < sheet.bends; b++) {
                if ((bits >> b & 1) == 1) {
                    least = Math.min(least, changesBy(mask, tool, b));
                }
            }
            return least;
        }

        /** The fewest changes from here on if bend b comes next; NEVER or more if no order goes on from there. */
        private int changesBy(int mask, int tool, int b) {
            int next = sheet.tools[b];
            return changeTo(tool, next) + fewest[(mask | 1 << b) * TOOL_STATES + next];
        }

        private static int changeTo(int tool, int next) {
            return tool == NO_TOOL || tool == next ? 0 : 1;
        }

        /** Writes the first order, or the first of the best ones; answers its changes. */
        private int walk(int[] row, boolean best) {
            int mask = 0;
            int tool = NO_TOOL;
            int sum = 0;
            for (int k = 0; k < sheet.bends; k++) {
                int limit = best ? fewest[mask * TOOL_STATES + tool] : NEVER - 1;
                int b = leastWithin(mask, tool, limit);
                sum += changeTo(tool, sheet.tools[b]);
                tool = sheet.tools[b];
                mask |= 1 << b;
                row[k] = b;
            }
            return sum;
        }

        private int leastWithin(int mask, int tool, int limit) {
            int bits = freeBits[mask];
            for (int b = 0; b < sheet.bends; b++) {
                if ((bits >> b & 1) == 1 && changesBy(mask, tool, b) <= limit) {
                    return b;
                }
            }
            return 0;
        }
    }

    /** Does what is told in; answers a refusal without counting it, having changed nothing. */
    private static final class Worker {
        private final Sheet sheet;
        private final Planner planner;

        Worker(Sheet sheet, Planner planner) {
            this.sheet = sheet;
            this.planner = planner;
        }

        int newStrip(int length) {
            if (!isWithin(length, 1, MOST_LENGTH)) {
                return BAD;
            }
            int flanges = sheet.bends + 1;
            sheet.lengths[0] = length;
            sheet.bends = 0;
            sheet.made = 0;
            planner.forget();
            return flanges;
        }

        int addBend(int length, int way, int tool) {
            boolean isWay = way == 1 || way == -1;
            if (!isWithin(length, 1, MOST_LENGTH) || !isWay || !isWithin(tool, 0, TOOLS - 1)) {
                return BAD;
            }
            int i = sheet.bends;
            if (i >= MOST_BENDS) {
                return FULL;
            }
            sheet.turns[i] = way;
            sheet.tools[i] = tool;
            sheet.lengths[i + 1] = length;
            sheet.bends = i + 1;
            planner.forget();
            return i;
        }

        int setPress(int wide, int high) {
            if (!isWithin(wide, 0, MOST_WIDE) || !isWithin(high, 0, MOST_HIGH)) {
                return BAD;
            }
            int before = 100 * sheet.wide + sheet.high;
            sheet.wide = wide;
            sheet.high = high;
            planner.forget();
            return before;
        }

        int setTaken(int tool, int taken) {
            if (!isWithin(tool, 0, TOOLS - 1) || !isWithin(taken, 0, MOST_TAKEN)) {
                return BAD;
            }
            int before = sheet.taken[tool];
            sheet.taken[tool] = taken;
            return before;
        }

        int makeBend(int i) {
            if (!sheet.hasBend(i)) {
                return BAD;
            }
            if (sheet.isMade(i) || planner.hitOf(sheet.made, i) != 0) {
                return NO;
            }
            sheet.made |= 1 << i;
            return Integer.bitCount(sheet.made);
        }

        int unmakeBend(int i) {
            if (!sheet.hasBend(i)) {
                return BAD;
            }
            if (!sheet.isMade(i)) {
                return NO;
            }
            sheet.made -= 1 << i;
            return Integer.bitCount(sheet.made);
        }

        int unmakeAll() {
            int were = Integer.bitCount(sheet.made);
            sheet.made = 0;
            return were;
        }

        int perform(Script script, int n) {
            int a = script.numberOf(n, 0);
            int b = script.numberOf(n, 1);
            switch (script.letters[n]) {
                case 's': return newStrip(a);
                case 'b': return addBend(a, wayOf(b), script.numberOf(n, 2));
                case 'm': return makeBend(a);
                case 'u': return unmakeBend(a);
                case 'p': return setPress(a, b);
                case 'k': return setTaken(a, b);
                default: return unmakeAll();
            }
        }

        /** A text tells ways by 0 and 1; any other number becomes one that addBend refuses. */
        private static int wayOf(int number) {
            if (number == 0) {
                return 1;
            }
            return number == 1 ? -1 : 0;
        }
    }

    /** A ring with one place more than states may be kept, so that staging loses none of them. */
    private static final class History {
        private static final int PLACES = MOST_STATES + 1;

        private final Sheet[] ring = new Sheet[PLACES];
        private int next;
        int kept;

        History() {
            for (int n = 0; n < PLACES; n++) {
                ring[n] = new Sheet();
            }
            next = 0;
            kept = 0;
        }

        void stage(Sheet sheet) {
            ring[next].copyFrom(sheet);
        }

        void keepStaged() {
            next = (next + 1) % PLACES;
            kept = Math.min(kept + 1, MOST_STATES);
        }

        void restoreStaged(Sheet sheet) {
            sheet.copyFrom(ring[next]);
        }

        /** To be called only while a state is kept. */
        void restoreLast(Sheet sheet) {
            next = (next + PLACES - 1) % PLACES;
            kept--;
            sheet.copyFrom(ring[next]);
        }
    }

    /** The text, and the orders that its last reading found. */
    private static final class Script {
        static final int NO_FAULT = -1;
        private static final int MOST_NUMBERS = 3;
        /** The shortest order is a letter and its end. */
        private static final int MOST_ORDERS = MOST_BYTES / 2;

        private final int[] bytes = new int[MOST_BYTES];
        final int[] letters = new int[MOST_ORDERS];
        private final int[] numbers = new int[MOST_ORDERS * MOST_NUMBERS];
        int size;
        int orderCount;
        private int at;

        Script() {
            size = 0;
            orderCount = 0;
            at = 0;
        }

        /** To be called only while the text is not full. */
        void append(int c) {
            bytes[size] = c;
            size++;
        }

        int numberOf(int n, int place) {
            return numbers[n * MOST_NUMBERS + place];
        }

        /** Reads the whole text: NO_FAULT, or the place of the fault. */
        int read() {
            at = 0;
            orderCount = 0;
            skipBlanks();
            if (at >= size) {
                return size;
            }
            while (at < size && orderCount < MOST_ORDERS) {
                if (!readOrder()) {
                    return at;
                }
                orderCount++;
                skipBlanks();
            }
            return NO_FAULT;
        }

        /** False: a fault, and at is its place; so with the other readers, too. */
        private boolean readOrder() {
            int letter = bytes[at];
            int needed = numbersBehind(letter);
            if (needed < 0) {
                return false;
            }
            letters[orderCount] = letter;
            at++;
            for (int place = 0; place < needed; place++) {
                if (!readNumber(place)) {
                    return false;
                }
            }
            skipBlanks();
            if (at >= size || bytes[at] != ';') {
                return false;
            }
            at++;
            return true;
        }

        private boolean readNumber(int place) {
            skipBlanks();
            if (!isFigureAt()) {
                return false;
            }
            int value = bytes[at] - '0';
            at++;
            if (isFigureAt()) {
                value = 10 * value + bytes[at] - '0';
                at++;
            }
            numbers[orderCount * MOST_NUMBERS + place] = value;
            return !isFigureAt();
        }

        private boolean isFigureAt() {
            return at < size && bytes[at] >= '0' && bytes[at] <= '9';
        }

        private void skipBlanks() {
            while (at < size && bytes[at] == ' ') {
                at++;
            }
        }

        private static int numbersBehind(int letter) {
            switch (letter) {
                case 'a': return 0;
                case 's':
                case 'm':
                case 'u': return 1;
                case 'p':
                case 'k': return 2;
                case 'b': return 3;
                default: return -1;
            }
        }
    }
}
