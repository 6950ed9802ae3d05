import java.util.ArrayList;
import java.util.List;

/** The boundary cases that 'Terms' names of STATES and of refused calls, sentence by sentence. */
final class StateTerms {
    private StateTerms() {
    }

    static void run() {
        eachCallToldS();
        noneIfRefused();
        noneByOtherCalls();
        nothingBecomesOther();
        allButTextAndRefusals();
        fiveAtMost();
        roundAndRound();
        gettersToo();
        badFirst();
        noAndFull();
        byDoesNothingCounts();
        byTypeAsByAnyCall();
    }

    private static void says(String words) {
        Document.says("Terms", words);
    }

    private static void due(String call, long got, long want) {
        Check.due(call, got, want);
    }

    /** Two bends, the second made: four states. */
    private static FlangeFolder twoBends() {
        FlangeFolder x = Check.folder(20, 20, 1, 20, -1);
        Check.makes(x, 1);
        return x;
    }

    private static void eachCallToldS() {
        says("STATES: each call told S, if it is not refused, leaves one");
        Check.leaves("strip(7)", twoBends(), 3, x -> x.strip(7));
        Check.leaves("bend(7, -1, 2)", twoBends(), 2, x -> x.bend(7, -1, 2));
        Check.leaves("press(3, 9)", twoBends(), 208, x -> x.press(3, 9));
        Check.leaves("takes(1, 9)", twoBends(), 5, x -> x.takes(1, 9));
        Check.leaves("makes(0)", twoBends(), 2, x -> x.makes(0));
        Check.leaves("unmakes(1)", twoBends(), 0, x -> x.unmakes(1));
        Check.leaves("again()", twoBends(), 1, FlangeFolder::again);
        FlangeFolder y = twoBends();
        Check.types(y, "s7;b7 1 2;m0;k0 9;p3 9;");
        Check.leaves("does()", y, 5, FlangeFolder::does);
    }

    private static void noneIfRefused() {
        says("if it is not refused");
        Check.refused("strip(0)", twoBends(), Check.BAD, x -> x.strip(0));
        Check.refused("bend(0, 1, 0)", twoBends(), Check.BAD, x -> x.bend(0, 1, 0));
        Check.refused("press(21, 0)", twoBends(), Check.BAD, x -> x.press(21, 0));
        Check.refused("takes(3, 0)", twoBends(), Check.BAD, x -> x.takes(3, 0));
        Check.refused("makes(2)", twoBends(), Check.BAD, x -> x.makes(2));
        Check.refused("makes(1)", twoBends(), Check.NO, x -> x.makes(1));
        Check.refused("unmakes(0)", twoBends(), Check.NO, x -> x.unmakes(0));
        FlangeFolder full = Check.folder(1, 2, 1, 3, 1, 4, 1, 5, 1, 6, 1, 7, 1);
        Check.refused("bend(8, 1, 0)", full, Check.FULL, x -> x.bend(8, 1, 0));
        for (int left = 4; left >= 0; left--) {
            due("back() behind a refused call, five STATES", full.back(), left);
            due("count(0)", full.count(0), left + 1);
        }
    }

    private static void noneByOtherCalls() {
        FlangeFolder x = new FlangeFolder();
        x.type('a');
        x.type(';');
        x.clear();
        x.digest();
        x.orders();
        due("told(4) behind calls not told S", x.told(4), 0);
        x.does();
        due("told(4) behind a FAULT", x.told(4), 0);
        x.strip(7);
        due("back()", x.back(), 0);
        due("told(4): back() leaves none", x.told(4), 0);
        Check.refused("back() of back()", x, Check.NO, FlangeFolder::back);
    }

    private static void nothingBecomesOther() {
        says("also if nothing becomes other by it");
        FlangeFolder x = new FlangeFolder();
        Check.leaves("strip(5)", x, 1, y -> y.strip(5));
        Check.leaves("press(2, 8)", x, 208, y -> y.press(2, 8));
        Check.leaves("takes(2, 8)", x, 8, y -> y.takes(2, 8));
        Check.leaves("again()", x, 0, FlangeFolder::again);
        Check.types(x, "a;");
        Check.leaves("does() of 'a;'", x, 1, FlangeFolder::does);
        FlangeFolder z = twoBends();
        Check.types(z, "m0;u0;");
        Check.leaves("does() of 'm0;u0;'", z, 2, FlangeFolder::does);
        x.again();
        x.press(2, 8);
        due("told(4)", x.told(4), 2);
    }

    private static void allButTextAndRefusals() {
        says("to go back to (all but THE TEXT and how often refused)");
        FlangeFolder x = new FlangeFolder();
        x.strip(7);
        Check.types(x, "abc");
        x.makes(9);
        x.unmakes(9);
        x.back();
        due("count(10)", x.count(10), 5);
        due("told(3): THE TEXT stays", x.told(3), 3);
        due("told(0): how often BAD stays", x.told(0), 2);
        x.back();
        due("told(1): how often NO stays", x.told(1), 1);
        Check.types(x, "s9;");
        x.strip(8);
        x.clear();
        x.back();
        due("told(3): what was cleared stays away", x.told(3), 0);
        everythingElse();
    }

    private static void everythingElse() {
        FlangeFolder x = new FlangeFolder();
        x.strip(20);
        x.bend(19, 1, 2);
        x.bend(18, -1, 1);
        x.press(1, 30);
        Check.makes(x, 0);
        Check.types(x, "s1;b2 0 0;b3 0 1;b4 0 2;p20 40;k0 11;k1 12;k2 13;m2;");
        Check.leaves("does() of all that can be other", x, 9, FlangeFolder::does);
        due("LENGTH of FLANGE 0", x.joint(1, 0), 20);
        due("of(0, 0)", x.of(0, 0), 19);
        due("of(1, 1)", x.of(1, 1), -1);
        due("of(0, 2)", x.of(0, 2), 2);
        due("count(2)", x.count(2), 1);
        due("WIDE, HIGH", x.press(0, 0), 130);
        due("TAKES", 10000 * x.count(5) + 100 * x.count(6) + x.count(7), 30508);
        due("orders()", x.orders(), 2);
    }

    private static void fiveAtMost() {
        says("5 at most, older ones lost.");
        FlangeFolder x = new FlangeFolder();
        for (int n = 1; n <= 5; n++) {
            x.strip(10 + n);
            due("told(4) behind " + n, x.told(4), n);
        }
        FlangeFolder five = new FlangeFolder();
        for (int n = 1; n <= 5; n++) {
            five.strip(10 + n);
        }
        for (int n = 4; n >= 0; n--) {
            five.back();
        }
        due("with five none is lost", five.count(10), 5);
        x.strip(16);
        due("told(4) behind 6", x.told(4), 5);
        Check.types(x, "s17;");
        due("does() with five", x.does(), 1);
        due("told(4) behind 7", x.told(4), 5);
        Check.types(x, "s18;s0;");
        due("does() that ends all with five", x.does(), -2001);
        for (int n = 4; n >= 0; n--) {
            due("back()", x.back(), n);
            due("count(10)", x.count(10), 12 + n);
        }
        Check.refused("back() to an older one", x, Check.NO, FlangeFolder::back);
    }

    /** On and back in turns of many lengths, against a plain row of what was. */
    private static void roundAndRound() {
        FlangeFolder x = new FlangeFolder();
        List<Integer> were = new ArrayList<>();
        int now = 5;
        for (int n = 0; n < 200; n++) {
            if (n * n % 7 < 3 && n % 11 != 0) {
                boolean none = were.isEmpty();
                due("call " + n + ": back()", x.back(), none ? Check.NO : were.size() - 1);
                now = none ? now : were.remove(were.size() - 1);
            } else {
                were.add(now);
                now = 1 + n % 20;
                x.strip(now);
                if (were.size() > 5) {
                    were.remove(0);
                }
            }
            due("call " + n + ": count(10)", x.count(10), now);
        }
        due("told(4)", x.told(4), were.size());
    }

    private static void gettersToo() {
        says("Refused (any call, getters, too), changing nothing but how often");
        Check.refused("of(0, 4)", twoBends(), Check.BAD, x -> x.of(0, 4));
        Check.refused("joint(0, 2)", twoBends(), Check.BAD, x -> x.joint(0, 2));
        Check.refused("box(4)", twoBends(), Check.BAD, x -> x.box(4));
        Check.refused("hits(2)", twoBends(), Check.BAD, x -> x.hits(2));
        Check.refused("hits(1)", twoBends(), Check.NO, x -> x.hits(1));
        Check.refused("order(2, 0)", twoBends(), Check.BAD, x -> x.order(2, 0));
        Check.refused("changes(2)", twoBends(), Check.BAD, x -> x.changes(2));
        Check.refused("count(11)", twoBends(), Check.BAD, x -> x.count(11));
        Check.refused("told(5)", twoBends(), Check.BAD, x -> x.told(5));
        FlangeFolder x = twoBends();
        Check.types(x, "m0;");
        Check.refused("type(128)", x, Check.BAD, y -> y.type(128));
        due("does(): THE TEXT is as it was", x.does(), 1);
    }

    private static void badFirst() {
        says("the first of: BAD -1001 a number is not as told");
        due("BAD", FlangeFolder.BAD, -1001);
        FlangeFolder full = Check.folder(1, 2, 1, 3, 1, 4, 1, 5, 1, 6, 1, 7, 1);
        Check.refused("bend(0, 1, 0) of six", full, Check.BAD, x -> x.bend(0, 1, 0));
        Check.refused("bend(1, 0, 0) of six", full, Check.BAD, x -> x.bend(1, 0, 0));
        Check.refused("bend(1, 1, 3) of six", full, Check.BAD, x -> x.bend(1, 1, 3));
        Check.types(full, "a".repeat(120));
        Check.refused("type(-1) of 120", full, Check.BAD, x -> x.type(-1));
        Check.refused("type(128) of 120", full, Check.BAD, x -> x.type(128));
        FlangeFolder none = Check.folder(3, 1, 1, 3, -1);
        due("there is no ORDER", none.orders(), 0);
        Check.refused("order(2, 0) without an ORDER", none, Check.BAD, x -> x.order(2, 0));
        Check.refused("order(0, 2) without an ORDER", none, Check.BAD, x -> x.order(0, 2));
        Check.refused("changes(2) without an ORDER", none, Check.BAD, x -> x.changes(2));
        Check.onlyTells("order(0, 0) is no refusal", none, Check.NONE, x -> x.order(0, 0));
        Check.onlyTells("changes(0) is no refusal", none, Check.NONE, x -> x.changes(0));
        twoWrong();
    }

    /** Two wrong numbers are one refusal. */
    private static void twoWrong() {
        FlangeFolder x = twoBends();
        Check.refused("bend(0, 0, 3)", x, Check.BAD, y -> y.bend(0, 0, 3));
        Check.refused("press(-1, 41)", x, Check.BAD, y -> y.press(-1, 41));
        Check.refused("takes(3, 100)", x, Check.BAD, y -> y.takes(3, 100));
        Check.refused("of(2, 4)", x, Check.BAD, y -> y.of(2, 4));
        Check.refused("joint(4, 2)", x, Check.BAD, y -> y.joint(4, 2));
        Check.refused("order(2, 2)", x, Check.BAD, y -> y.order(2, 2));
    }

    private static void noAndFull() {
        says("NO -1002, FULL -1003 as told.");
        due("NO", FlangeFolder.NO, -1002);
        due("FULL", FlangeFolder.FULL, -1003);
        due("NONE", FlangeFolder.NONE, -1000);
        FlangeFolder x = twoBends();
        Check.refused("makes(1)", x, Check.NO, y -> y.makes(1));
        Check.refused("unmakes(0)", x, Check.NO, y -> y.unmakes(0));
        Check.refused("hits(1)", x, Check.NO, y -> y.hits(1));
        Check.refused("back()", new FlangeFolder(), Check.NO, FlangeFolder::back);
        Check.types(x, "a".repeat(120));
        Check.refused("type(0) of 120", x, Check.FULL, y -> y.type(0));
        FlangeFolder full = Check.folder(1, 2, 1, 3, 1, 4, 1, 5, 1, 6, 1, 7, 1);
        Check.refused("bend(1, 1, 0) of six", full, Check.FULL, y -> y.bend(1, 1, 0));
    }

    private static void byDoesNothingCounts() {
        says("By does() nothing counts");
        String[] texts = {"s0;", "b1 0 3;", "p21 0;", "m6;", "u6;", "m1;", "u0;", "", "x", "s123;", "a;k0 3;u1;",
            "b1 0 0;b1 0 0;b1 0 0;b1 0 0;b1 0 0;"};
        for (String text : texts) {
            FlangeFolder x = twoBends();
            Check.types(x, text);
            Check.holds("does() of '" + text + "' is not done", x.does() < 0);
            for (int what = 0; what <= 2; what++) {
                due("told(" + what + ") behind '" + text + "'", x.told(what), 0);
            }
            due("told(4) behind '" + text + "'", x.told(4), 4);
        }
    }

    private static void byTypeAsByAnyCall() {
        says("(by type() as by any call).");
        FlangeFolder x = new FlangeFolder();
        x.type(-1);
        x.type(128);
        due("told(0) by type()", x.told(0), 2);
        Check.types(x, " ".repeat(120));
        x.type(32);
        x.type(0);
        x.type(127);
        due("told(2) by type()", x.told(2), 3);
        due("told(1) by type()", x.told(1), 0);
    }
}
