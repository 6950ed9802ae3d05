import java.util.ArrayDeque;
import java.util.ArrayList;
import java.util.HashSet;
import java.util.List;
import java.util.regex.Matcher;
import java.util.regex.Pattern;

/**
 * The document once more, in the slowest and plainest way: every point of the strip, every order
 * walked, faults by asking of each beginning of the text whether it can still become one.
 */
final class FolderModel {
    static final int NONE = -1000, BAD = -1001, NO = -1002, FULL = -1003;

    private static final String N = "[0-9]{1,2}";
    private static final Pattern TEXT = Pattern.compile(
            " *(?:(?:[smu] *" + N + "|[pk] *" + N + " +" + N + "|b *" + N + " +" + N + " +" + N + "|a) *; *)+");
    private static final Pattern NUMBER = Pattern.compile("[0-9]+");

    private record Bend(int length, int way, int tool, boolean made) {
        Bend with(boolean now) {
            return new Bend(length, way, tool, now);
        }
    }

    private record State(int first, List<Bend> bends, int wide, int high, List<Integer> taken) {
        int flanges() {
            return bends.size() + 1;
        }

        int length(int k) {
            return k == 0 ? first : bends.get(k - 1).length();
        }

        State withBends(List<Bend> now) {
            return new State(first, List.copyOf(now), wide, high, taken);
        }

        State withMade(int i, boolean now) {
            List<Bend> next = new ArrayList<>(bends);
            next.set(i, next.get(i).with(now));
            return withBends(next);
        }
    }

    private record Point(int x, int y) {
        Point turnedLeft() {
            return new Point(-y, x);
        }

        Point turnedRight() {
            return new Point(y, -x);
        }
    }

    private State now = new State(5, List.of(), 2, 8, List.of(3, 5, 8));
    private final ArrayDeque<State> past = new ArrayDeque<>();
    private final int[] refusals = new int[3];
    private String text = "";
    private State ordersOf = null;
    private List<List<Integer>> ordersKept = null;

    private int settle(State before, int answer) {
        if (answer <= BAD && answer >= FULL) {
            return refuse(answer);
        }
        leave(before);
        return answer;
    }

    private void leave(State state) {
        past.addLast(state);
        if (past.size() > 5) {
            past.removeFirst();
        }
    }

    private int refuse(int why) {
        refusals[BAD - why]++;
        return why;
    }

    int strip(int l) {
        return settle(now, stripQuietly(l));
    }

    int bend(int l, int w, int t) {
        return settle(now, bendQuietly(l, w, t));
    }

    int press(int w, int h) {
        return settle(now, pressQuietly(w, h));
    }

    int takes(int t, int n) {
        return settle(now, takesQuietly(t, n));
    }

    int makes(int i) {
        return settle(now, makesQuietly(i));
    }

    int unmakes(int i) {
        return settle(now, unmakesQuietly(i));
    }

    int again() {
        return settle(now, againQuietly());
    }

    private int stripQuietly(int l) {
        if (l < 1 || l > 20) {
            return BAD;
        }
        int had = now.flanges();
        now = new State(l, List.of(), now.wide(), now.high(), now.taken());
        return had;
    }

    private int bendQuietly(int l, int w, int t) {
        if (l < 1 || l > 20 || Math.abs((long) w) != 1 || t < 0 || t > 2) {
            return BAD;
        }
        if (now.bends().size() == 6) {
            return FULL;
        }
        List<Bend> next = new ArrayList<>(now.bends());
        next.add(new Bend(l, w, t, false));
        now = now.withBends(next);
        return next.size() - 1;
    }

    private int pressQuietly(int w, int h) {
        if (w < 0 || w > 20 || h < 0 || h > 40) {
            return BAD;
        }
        int was = now.wide() * 100 + now.high();
        now = new State(now.first(), now.bends(), w, h, now.taken());
        return was;
    }

    private int takesQuietly(int t, int n) {
        if (t < 0 || t > 2 || n < 0 || n > 99) {
            return BAD;
        }
        List<Integer> next = new ArrayList<>(now.taken());
        int was = next.set(t, n);
        now = new State(now.first(), now.bends(), now.wide(), now.high(), List.copyOf(next));
        return was;
    }

    private boolean isBend(int i) {
        return i >= 0 && i < now.bends().size();
    }

    private int makesQuietly(int i) {
        if (!isBend(i)) {
            return BAD;
        }
        if (now.bends().get(i).made() || hit(now, i) != 0) {
            return NO;
        }
        now = now.withMade(i, true);
        return made();
    }

    private int unmakesQuietly(int i) {
        if (!isBend(i)) {
            return BAD;
        }
        if (!now.bends().get(i).made()) {
            return NO;
        }
        now = now.withMade(i, false);
        return made();
    }

    private int againQuietly() {
        int were = made();
        now = unmade(now);
        return were;
    }

    private static State unmade(State s) {
        List<Bend> next = new ArrayList<>();
        for (Bend b : s.bends()) {
            next.add(b.with(false));
        }
        return s.withBends(next);
    }

    private int made() {
        return (int) now.bends().stream().filter(Bend::made).count();
    }

    int of(int i, int what) {
        if (!isBend(i) || what < 0 || what > 3) {
            return refuse(BAD);
        }
        Bend b = now.bends().get(i);
        return new int[] {b.length(), b.way(), b.tool(), b.made() ? 1 : 0}[what];
    }

    /** All points along the strip, one for each whole place on it. */
    private static List<Point> points(State s) {
        List<Point> all = new ArrayList<>();
        Point at = new Point(0, 0);
        Point step = new Point(1, 0);
        all.add(at);
        for (int k = 0; k < s.flanges(); k++) {
            for (int n = 0; n < s.length(k); n++) {
                at = new Point(at.x() + step.x(), at.y() + step.y());
                all.add(at);
            }
            if (k < s.bends().size() && s.bends().get(k).made()) {
                step = s.bends().get(k).way() == 1 ? step.turnedLeft() : step.turnedRight();
            }
        }
        return all;
    }

    private static int placeOfJoint(State s, int k) {
        int place = 0;
        for (int n = 0; n < k; n++) {
            place += s.length(n);
        }
        return place;
    }

    int joint(int k, int what) {
        if (k < 0 || k > now.flanges() || what < 0 || what > 1) {
            return refuse(BAD);
        }
        Point p = points(now).get(placeOfJoint(now, k));
        return what == 0 ? p.x() : p.y();
    }

    int box(int what) {
        if (what < 0 || what > 3) {
            return refuse(BAD);
        }
        int found = what < 2 ? Integer.MAX_VALUE : Integer.MIN_VALUE;
        for (Point p : points(now)) {
            int v = what % 2 == 0 ? p.x() : p.y();
            found = what < 2 ? Math.min(found, v) : Math.max(found, v);
        }
        return found;
    }

    private static int hit(State s, int b) {
        List<Point> all = points(s);
        int place = placeOfJoint(s, b + 1);
        Point zero = all.get(place);
        Point step = new Point(all.get(place + 1).x() - zero.x(), all.get(place + 1).y() - zero.y());
        List<Point> laid = new ArrayList<>();
        for (Point p : all) {
            laid.add(new Point(p.x() - zero.x(), p.y() - zero.y()));
        }
        while (step.x() != 1) {
            step = step.turnedRight();
            laid.replaceAll(Point::turnedRight);
        }
        int way = s.bends().get(b).way();
        for (Point p : laid) {
            if (Math.abs(p.x()) <= s.wide() && way * p.y() < 0) {
                return 1;
            }
        }
        for (Point p : laid) {
            if (p.x() == 0 && way * p.y() >= 1 && way * p.y() <= s.high()) {
                return 2;
            }
        }
        List<Point> after = points(s.withMade(b, true));
        return new HashSet<>(after).size() < after.size() ? 3 : 0;
    }

    int hits(int i) {
        if (!isBend(i)) {
            return refuse(BAD);
        }
        if (now.bends().get(i).made()) {
            return refuse(NO);
        }
        return hit(now, i);
    }

    int free() {
        int bits = 0;
        for (int i = 0; i < now.bends().size(); i++) {
            if (!now.bends().get(i).made() && hit(now, i) == 0) {
                bits += 1 << i;
            }
        }
        return bits;
    }

    /** The orders from a state on, in the order of their bends. */
    private static List<List<Integer>> walked(State s) {
        List<List<Integer>> found = new ArrayList<>();
        walk(s, new ArrayList<>(), found);
        return found;
    }

    private static void walk(State s, List<Integer> soFar, List<List<Integer>> found) {
        boolean all = true;
        for (int i = 0; i < s.bends().size(); i++) {
            if (s.bends().get(i).made()) {
                continue;
            }
            all = false;
            if (hit(s, i) == 0) {
                soFar.add(i);
                walk(s.withMade(i, true), soFar, found);
                soFar.remove(soFar.size() - 1);
            }
        }
        if (all) {
            found.add(List.copyOf(soFar));
        }
    }

    private List<List<Integer>> allOrders() {
        State start = unmade(now);
        if (!start.equals(ordersOf)) {
            ordersOf = start;
            ordersKept = walked(start);
        }
        return ordersKept;
    }

    private int changesOf(List<Integer> order) {
        int n = 0;
        for (int k = 1; k < order.size(); k++) {
            int ahead = now.bends().get(order.get(k - 1)).tool();
            if (now.bends().get(order.get(k)).tool() != ahead) {
                n++;
            }
        }
        return n;
    }

    private List<Integer> best() {
        List<Integer> found = allOrders().get(0);
        for (List<Integer> o : allOrders()) {
            if (changesOf(o) < changesOf(found)) {
                found = o;
            }
        }
        return found;
    }

    int orders() {
        return allOrders().size();
    }

    int order(int k, int what) {
        if (!isBend(k) || what < 0 || what > 1) {
            return refuse(BAD);
        }
        if (allOrders().isEmpty()) {
            return NONE;
        }
        return (what == 0 ? allOrders().get(0) : best()).get(k);
    }

    int changes(int what) {
        if (what < 0 || what > 1) {
            return refuse(BAD);
        }
        if (allOrders().isEmpty()) {
            return NONE;
        }
        return changesOf(what == 1 ? allOrders().get(0) : best());
    }

    int ways() {
        return walked(now).size();
    }

    int count(int what) {
        int bits = 0;
        int sum = now.first();
        int less = 0;
        int lessMade = 0;
        for (int i = 0; i < now.bends().size(); i++) {
            Bend b = now.bends().get(i);
            sum += b.length();
            less += now.taken().get(b.tool());
            if (b.made()) {
                bits |= 1 << i;
                lessMade += now.taken().get(b.tool());
            }
        }
        int[] all = {now.bends().size(), made(), bits, now.wide(), now.high(), now.taken().get(0),
            now.taken().get(1), now.taken().get(2), 10 * sum - less, 10 * sum - lessMade, sum};
        return what < 0 || what >= all.length ? refuse(BAD) : all[what];
    }

    int type(int c) {
        if (c < 0 || c > 127) {
            return refuse(BAD);
        }
        if (text.length() == 120) {
            return refuse(FULL);
        }
        text += (char) c;
        return text.length();
    }

    int clear() {
        int had = text.length();
        text = "";
        return had;
    }

    private int fault() {
        for (int n = 1; n <= text.length(); n++) {
            Matcher m = TEXT.matcher(text.substring(0, n));
            if (!m.matches() && !m.hitEnd()) {
                return n - 1;
            }
        }
        return TEXT.matcher(text).matches() ? -1 : text.length();
    }

    int does() {
        int fault = fault();
        if (fault >= 0) {
            return -10 - fault;
        }
        State before = now;
        String[] told = text.trim().split(";");
        for (int n = 0; n < told.length; n++) {
            int answer = one(told[n].trim());
            if (answer <= BAD && answer >= FULL) {
                now = before;
                return -2000 - n;
            }
        }
        leave(before);
        return told.length;
    }

    private int one(String order) {
        List<Integer> v = new ArrayList<>();
        Matcher m = NUMBER.matcher(order);
        while (m.find()) {
            v.add(Integer.valueOf(m.group()));
        }
        return switch (order.charAt(0)) {
            case 's' -> stripQuietly(v.get(0));
            case 'b' -> bendQuietly(v.get(0), v.get(1) > 1 ? 0 : 1 - 2 * v.get(1), v.get(2));
            case 'm' -> makesQuietly(v.get(0));
            case 'u' -> unmakesQuietly(v.get(0));
            case 'p' -> pressQuietly(v.get(0), v.get(1));
            case 'k' -> takesQuietly(v.get(0), v.get(1));
            default -> againQuietly();
        };
    }

    int back() {
        if (past.isEmpty()) {
            return refuse(NO);
        }
        now = past.removeLast();
        return past.size();
    }

    int told(int what) {
        int[] all = {refusals[0], refusals[1], refusals[2], text.length(), past.size()};
        return what < 0 || what >= all.length ? refuse(BAD) : all[what];
    }

    long digest() {
        List<Integer> v = new ArrayList<>();
        for (int n = 0; n < 5; n++) {
            v.add(told(n));
        }
        for (int n = 0; n < 11; n++) {
            v.add(count(n));
        }
        v.add(now.first());
        for (int i = 0; i < now.bends().size(); i++) {
            for (int n = 0; n < 4; n++) {
                v.add(of(i, n));
            }
        }
        for (int k = 0; k <= now.flanges(); k++) {
            v.add(joint(k, 0));
            v.add(joint(k, 1));
        }
        for (int n = 0; n < 4; n++) {
            v.add(box(n));
        }
        v.addAll(List.of(free(), orders(), changes(0), changes(1), ways()));
        long h = 2934;
        for (int one : v) {
            h = h * 31 + one;
        }
        return h;
    }
}
