/** The boundary cases that 'Terms' names of THE TEXT and its FAULT, sentence by sentence. */
final class TextTerms {
    private static final String FIGURES = "0123456789";
    private static final String LETTERS = "sbmupka";

    private TextTerms() {
    }

    static void run() {
        atMost();
        asTheCalls();
        wayOfABend();
        figures();
        blanks();
        readWhole();
        endsAll();
        faults();
        everyByte();
        nothingIsDone();
    }

    private static void says(String words) {
        Document.says("Terms", words);
    }

    private static void due(String call, long got, long want) {
        Check.due(call, got, want);
    }

    /** Two bends, the second made; text and states aside, nothing has been. */
    private static FlangeFolder twoBends() {
        FlangeFolder x = Check.folder(20, 20, 1, 20, -1);
        Check.makes(x, 1);
        return x;
    }

    private static void does(String text, int want) {
        Check.does(twoBends(), text, want);
    }

    private static void atMost() {
        says("THE TEXT (120 bytes at most) tells ORDERS of its own, each ended by ;");
        does("a;".repeat(60), 60);
        FlangeFolder x = twoBends();
        Check.types(x, "a;".repeat(60));
        Check.refused("type() of one more", x, Check.FULL, y -> y.type('a'));
        due("does() all the same", x.does(), 60);
        does("a;", 1);
        does("a", -11);
        does("a;a", -13);
        does("a;s5", -14);
    }

    /** A text of one order and the call itself, on two objects alike. */
    private static void same(String text, Check.Call call) {
        FlangeFolder x = twoBends();
        FlangeFolder y = twoBends();
        Check.types(x, text);
        Check.types(y, text);
        int answer = call.on(y);
        boolean refused = answer == Check.BAD || answer == Check.NO || answer == Check.FULL;
        long before = x.digest();
        due("does() of '" + text + "'", x.does(), refused ? -2000 : 1);
        due("digest() behind '" + text + "'", x.digest(), refused ? before : y.digest());
    }

    private static void asTheCalls() {
        says(": s l (as strip), b l w t (as bend; w 0 up, 1 down), m i (as makes), u i (as unmakes), p w h (as press),"
                + " k t n (as takes), a (as again).");
        int[] numbers = {0, 1, 2, 3, 5, 6, 19, 20, 21, 39, 40, 41, 98, 99};
        for (int n : numbers) {
            same("s" + n + ";", x -> x.strip(n));
            same("m" + n + ";", x -> x.makes(n));
            same("u" + n + ";", x -> x.unmakes(n));
            same("b" + n + " 0 2;", x -> x.bend(n, 1, 2));
            same("b7 1 " + n + ";", x -> x.bend(7, -1, n));
            same("p" + n + " 7;", x -> x.press(n, 7));
            same("p7 " + n + ";", x -> x.press(7, n));
            same("k" + n + " 7;", x -> x.takes(n, 7));
            same("k1 " + n + ";", x -> x.takes(1, n));
        }
        same("a;", FlangeFolder::again);
        FlangeFolder full = Check.folder(1, 1, 1, 1, 1, 1, 1, 1, 1, 1, 1, 1, 1);
        Check.does(full, "b1 0 0;", -2000);
    }

    private static void wayOfABend() {
        says("w 0 up, 1 down");
        same("b5 0 1;", x -> x.bend(5, 1, 1));
        same("b5 1 1;", x -> x.bend(5, -1, 1));
        for (int w : new int[] {2, 3, 10, 99}) {
            same("b5 " + w + " 1;", x -> x.bend(5, 0, 1));
        }
        same("b5 00 1;", x -> x.bend(5, 1, 1));
        same("b5 01 1;", x -> x.bend(5, -1, 1));
    }

    private static void figures() {
        says("Numbers have 1 or 2 figures");
        same("s7;", x -> x.strip(7));
        same("s07;", x -> x.strip(7));
        same("s17;", x -> x.strip(17));
        same("s00;", x -> x.strip(0));
        same("k2 99;", x -> x.takes(2, 99));
        same("k02 09;", x -> x.takes(2, 9));
        does("s;", -11);
        does("s007;", -13);
        does("p1;", -12);
        does("k2 100;", -15);
    }

    private static void blanks() {
        says("blanks (32) may stand anywhere but within a number, needed only where figures of two numbers would else"
                + " stand side by side.");
        same(" a;", FlangeFolder::again);
        same("a ;", FlangeFolder::again);
        same("a; ", FlangeFolder::again);
        same("   a   ;   ", FlangeFolder::again);
        same("s 7 ; ", x -> x.strip(7));
        same("  b  7  1  2  ;  ", x -> x.bend(7, -1, 2));
        same("b07 01 02;", x -> x.bend(7, -1, 2));
        same("p12 34;", x -> x.press(12, 34));
        same("p1 2;", x -> x.press(1, 2));
        same(" ".repeat(118) + "a;", FlangeFolder::again);
        same("a" + " ".repeat(118) + ";", FlangeFolder::again);
        same("a;" + " ".repeat(118), FlangeFolder::again);
        same("p1" + " ".repeat(116) + "2;", x -> x.press(1, 2));
        does("a;a;s7;a;", 4);
        does("s1 7;", -13);
        does("p12;", -13);
        does("p123;", -13);
        does("p12 3 4;", -16);
        for (int c : new int[] {0, 9, 10, 13, 31, 33, 127}) {
            does((char) c + "a;", -10);
            does("a" + (char) c + ";", -11);
            does("a;" + (char) c, -12);
            does("p1" + (char) c + "2;", -12);
        }
    }

    private static void readWhole() {
        says("THE TEXT is read whole first");
        does("s99;q", -14);
        does("m9;m9;m9", -18);
        does("s0;s123;", -16);
        does("s9;s9;s9;;", -19);
    }

    /** An order is refused by what is then, not by what is at first; what came ahead of it is not done, too. */
    private static void endsAll() {
        says("one that its call would refuse then ends all, nothing is done.");
        String[] ahead = {"", "a;", "k0 99;p1 1;", "s9;b2 0 0;m0;"};
        int[] orders = {0, 1, 2, 3};
        String[] refused = {"s0;", "s21;", "b0 0 0;", "b21 0 0;", "b1 2 0;", "b1 0 3;", "m6;", "u6;", "p21 0;",
            "p0 41;", "k3 0;"};
        for (int n = 0; n < ahead.length; n++) {
            for (String r : refused) {
                undone(ahead[n] + r, -2000 - orders[n]);
                undone(ahead[n] + r + "a;", -2000 - orders[n]);
            }
        }
        undone("m1;", -2000);
        undone("u1;u1;", -2001);
        undone("a;u1;", -2001);
        undone("a;m1;m1;", -2002);
        undone("m0;m0;", -2001);
        undone("s5;m0;", -2001);
        undone("s5;b4 0 0;b5 0 0;b4 0 0;m0;m1;m2;", -2006);
        undone("b1 0 0;b1 0 0;b1 0 0;b1 0 0;b1 0 0;", -2004);
        undone("a;".repeat(58) + "u0;", -2058);
        whatWasLookedAt();
        does("a;m1;", 2);
        does("u1;m1;u1;", 3);
        does("s5;b5 0 0;m0;", 3);
        does("b1 0 0;b1 0 0;b1 0 0;b1 0 0;", 4);
    }

    /** What the text looked at, a strip that closes and a press that all hit, is not what the object has. */
    private static void whatWasLookedAt() {
        String[] texts = {"s5;b4 0 0;b5 0 0;b4 0 0;p0 0;m0;m1;m2;", "s3;b1 0 0;b3 1 0;b9 0 0;p20 40;m0;m1;",
            "b4 0 0;b4 0 0;u2;", "p20 40;u2;", "s1;u0;"};
        int[] ends = {7, 6, 2, 1, 1};
        for (int n = 0; n < texts.length; n++) {
            FlangeFolder x = Check.folder(20, 20, 1, 20, -1, 20, 1);
            Check.makes(x, 0);
            Check.types(x, texts[n]);
            Check.onlyTells("does() of '" + texts[n] + "'", x, -2000 - ends[n], FlangeFolder::does);
            due("orders()", x.orders(), 6);
            due("free()", x.free(), 6);
            due("makes(1)", x.makes(1), 2);
            due("hits(2)", x.hits(2), 0);
        }
    }

    private static void undone(String text, int want) {
        FlangeFolder x = twoBends();
        Check.types(x, text);
        Check.onlyTells("does() of '" + text + "'", x, want, FlangeFolder::does);
        due("back() behind it", x.back(), 3);
        due("count(2), the state ahead of all", x.count(2), 0);
    }

    private static void faults() {
        says("FAULT: the place of the first byte that can not stand there (a third figure)");
        does("s123;", -13);
        does("s12345;", -13);
        does("p1 234;", -15);
        does("b1 1 111;", -17);
        does("b111;", -13);
        does("qq", -10);
        does("a;".repeat(59) + ";a", -128);
        does("a;".repeat(59) + "a1", -129);
        does("1", -10);
        does(";", -10);
        says("the TEXT's length, if it ends too early (one that is empty or has blanks alone, too).");
        does("", -10);
        does(" ", -11);
        does(" ".repeat(120), -130);
        does("a;".repeat(59) + "s5", -130);
        does("a;".repeat(59) + " a", -130);
        does("b", -11);
        does("b 1", -13);
        does("b 1 1", -15);
        does("b 1 1 1", -17);
        does("b 1 1 1 ", -18);
    }

    /** Behind each beginning each byte: whether it can stand there. */
    private static void everyByte() {
        says("the first byte that can not stand there");
        String any = " " + LETTERS;
        String number = " " + FIGURES;
        String[][] places = {{"", any}, {" ", any}, {"a;", any}, {"a; ", any}, {"s5;", any}, {"a", " ;"}, {"a ", " ;"},
            {"s", number}, {"s ", number}, {"s1", number + ";"}, {"s12", " ;"}, {"s1 ", " ;"}, {"s12 ", " ;"},
            {"m", number}, {"m1", number + ";"}, {"m12", " ;"}, {"u", number}, {"u1", number + ";"}, {"u12", " ;"},
            {"p", number}, {"p1", number}, {"p12", " "}, {"p1 ", number}, {"p12 ", number}, {"p1 2", number + ";"},
            {"p1 23", " ;"}, {"p1 2 ", " ;"}, {"k", number}, {"k1", number}, {"k12", " "}, {"k1 ", number},
            {"k1 2", number + ";"}, {"k1 23", " ;"}, {"k1 2 ", " ;"}, {"b", number}, {"b1", number}, {"b12", " "},
            {"b1 ", number}, {"b1 2", number}, {"b1 23", " "}, {"b1 2 ", number}, {"b1 2 3", number + ";"},
            {"b1 2 34", " ;"}, {"b1 2 3 ", " ;"}};
        for (String[] place : places) {
            for (int c = 0; c < 128; c++) {
                oneByte(place[0], (char) c, place[1].indexOf(c) >= 0);
            }
        }
    }

    private static void oneByte(String ahead, char c, boolean stands) {
        String text = ahead + c;
        FlangeFolder x = twoBends();
        Check.types(x, text);
        int got = x.does();
        String name = "does() of '" + text + "', byte " + (int) c;
        if (!stands) {
            due(name, got, -10 - ahead.length());
        } else if (text.trim().endsWith(";")) {
            Check.holds(name + ": no FAULT in " + got, got >= 1 || got <= -2000);
        } else {
            due(name, got, -10 - text.length());
        }
    }

    private static void nothingIsDone() {
        says("If there is one, nothing is done.");
        String[] texts = {"", "  ", "s9;b2 0 0;x", "k0 9;p1 1;a;a", "a;a;;", "u1;m0;s123;"};
        int[] faults = {0, 2, 10, 13, 4, 9};
        for (int n = 0; n < texts.length; n++) {
            FlangeFolder x = twoBends();
            Check.types(x, texts[n]);
            Check.onlyTells("does() of '" + texts[n] + "'", x, -10 - faults[n], FlangeFolder::does);
        }
    }
}
