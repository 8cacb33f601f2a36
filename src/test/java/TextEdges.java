/** Sentences on THE TEXT and what is LAID: a part of "Terms", promises 1 to 7. */
final class TextEdges {
    private static final int BAD = Check.BAD, NO = Check.NO, FULL = Check.FULL, NONE = Check.NONE;
    private static final String LETTERS = "agbrqt";
    private static final int[] WITHOUT = {0, 1, 500, 1000, 0, 90};

    private final Check check;

    private TextEdges(Check check) {
        this.check = check;
    }

    static void run(Check check) {
        TextEdges e = new TextEdges(check);
        e.length();
        e.letters();
        e.figures();
        e.partings();
        e.air();
        e.weight();
        e.bounce();
        e.grip();
        e.squeeze();
        e.sure();
        e.lines();
        e.linesOfSeveral();
        e.wickets();
        e.lastOfSeveral();
        e.faultPlace();
        e.laidAtFirst();
        e.newObject();
        e.write();
        e.writeRefused();
        e.wipe();
        e.fault();
        e.lay();
        e.layRefused();
        e.law();
        e.lawRefused();
        e.line();
        e.lineRefused();
    }

    private static int faultOf(String s) {
        return Make.written(s).fault();
    }

    private void good(String... texts) {
        for (String s : texts) {
            check.due("fault of " + s, faultOf(s), NONE);
            check.due("lay() of " + s + " is no NO", Make.written(s).lay() >= 0);
        }
    }

    /** Alone, and between ITEMS that are so. */
    private void faulty(String... texts) {
        for (String s : texts) {
            check.due("fault of " + s, faultOf(s), 0);
            check.due("fault behind others, of " + s, faultOf("g5;l-7,8;" + s + "a1;"), 9);
            check.due("lay() of " + s, Make.written(s).lay(), NO);
        }
    }

    private void length() {
        check.term("A TEXT are bytes (200 at most)");
        WasItOut x = Make.written(Make.longest());
        check.due("count(0)", x.count(0), 200);
        check.due("the 201st byte", x.write(1, ';'), FULL);
        check.due("count(0)", x.count(0), 200);
        check.due("200 bytes are laid", x.lay(), 66);
        check.due("the last byte is read, too", x.law(0), 10);
        WasItOut lines = Make.written("l0,0;".repeat(39) + "l0,7;");
        check.due("forty lines are 200 bytes", lines.lay(), 40);
        check.due("the fortieth counts", lines.line(0), 7);
        WasItOut y = new WasItOut();
        for (int b = 0; b < 200; b++) {
            check.due("a byte of any number", y.write(1, 255 - b), b + 1);
        }
        check.due("none at first", new WasItOut().count(0), 0);
    }

    private void letters() {
        check.term("ITEMS one behind the other, each a letter");
        for (int b = 0; b < 256; b++) {
            char c = (char) b;
            check.due("one number behind byte " + b, faultOf(c + "99;"), LETTERS.indexOf(c) >= 0 ? NONE : 0);
            check.due("two numbers behind byte " + b, faultOf(c + "9,9;"), c == 'l' ? NONE : 0);
            check.due("three numbers behind byte " + b, faultOf(c + "9,9,9;"), c == 'k' ? NONE : 0);
            check.due("four numbers behind byte " + b, faultOf(c + "9,9,9,9;"), 0);
            check.due("no number behind byte " + b, faultOf(c + ";"), 0);
        }
        good("", "a1;", "a1;a1;", "a1;g1;b1;r1;q1;t60;l1,1;k1,1,1;");
        faulty("aa1;", "\0", "1;", ";");
        check.due("two ends", faultOf("a1;;"), 3);
        check.due("a sign between", faultOf("a1; g1;"), 3);
        check.due("a sign behind the last", faultOf("a1;g1;\n"), 6);
    }

    private void figures() {
        check.term("numbers (of one to four figures, perhaps with - ahead, not of 0)");
        good("l0,0;", "l00,00;", "l000,000;", "l0000,0000;", "l1,1;", "l12,12;", "l123,123;", "l1234,1234;", "a0500;",
            "t0051;", "k0001,0002,0003;");
        faulty("l,0;", "l0,;", "l00000,0;", "l0,00000;", "l00001,1;", "l1,00001;", "l12345,1;", "l1,12345;", "a;", "a00500;",
            "a00000;", "k,1,1;", "k1,,1;", "k1,1,;", "k1,1,00001;");
        good("l-1,-1;", "l-12,-12;", "l-123,-123;", "l-1234,-1234;", "l-01,-001;", "l-0001,1;", "k-1,1,1;");
        faulty("l-,1;", "l1,-;", "l--1,1;", "l1,--1;", "l1-,1;", "l1,1-;", "l-12345,1;", "l1,-00001;", "a-;", "l+1,1;");
        faulty("l-0,1;", "l1,-0;", "l-00,1;", "l1,-000;", "l-0000,1;", "k-0,1,1;", "k1,-0,1;", "k1,1,-0;", "a-0;", "g-0;",
            "b-0;", "r-0;", "q-0;", "t-0;");
        for (int b = 0; b < 256; b++) {
            char c = (char) b;
            boolean figure = b >= '0' && b <= '9';
            check.due("byte " + b + " for a figure", faultOf("l5" + c + "5,1;"), figure ? NONE : 0);
            check.due("byte " + b + " ahead", faultOf("l" + c + "5,1;"), figure || b == '-' ? NONE : 0);
        }
        check.due("-01 is 1 below 0", Make.laid("l-01,5;").line(-1), 5);
        check.due("0012 is 12", Make.laid("g0012;").law(1), 12);
        check.due("all four figures count", Make.laid("l1,-9876;").line(1), -9876);
    }

    private void partings() {
        check.term("parted by , and ;");
        for (int b = 0; b < 256; b++) {
            char c = (char) b;
            check.due("byte " + b + " between", faultOf("l5" + c + "5;"), c == ',' ? NONE : 0);
            check.due("byte " + b + " between the last", faultOf("k5,5" + c + "5;"), c == ',' ? NONE : 0);
            check.due("byte " + b + " at the end", faultOf("l5,5" + c), c == ';' ? NONE : 0);
            check.due("byte " + b + " at the end of one", faultOf("a5" + c), c == ';' ? NONE : 0);
        }
        faulty("a5,;", "a5,5;", "l5;", "l5,5,;", "l5,5,5;", "l5;5;", "k5,5;", "k5;5,5;", "k5,5;5;", "k5,5,5,;", "k5,5,5,5;");
        String whole = "k-1,2,3;";
        for (int n = 1; n < whole.length(); n++) {
            check.due("cut behind byte " + n, faultOf(whole.substring(0, n)), 0);
            check.due("cut behind others", faultOf("g1;" + whole.substring(0, n)), 3);
        }
        check.due("not cut", faultOf(whole), NONE);
    }

    /** The last numbers that are told are laid, the first that are not are faults, and what holds without. */
    private void numberOf(int what, int low, int high) {
        char letter = LETTERS.charAt(what);
        check.due("law without", new WasItOut().law(what), WITHOUT[what]);
        for (int v : new int[] {low, low + 1, high - 1, high}) {
            good(letter + "" + v + ";");
            check.due("law of " + letter + v, Make.laid(letter + "" + v + ";").law(what), v);
        }
        for (int v : new int[] {low - 1, high + 1, -9999, 9999, -low - 1, -high}) {
            faulty(letter + "" + v + ";");
        }
        WasItOut x = Make.laid(letter + "" + (low + high) / 2 + ";");
        Make.lay(x, what == 0 ? "g9;" : "a9;");
        check.due("law without, behind one with", x.law(what), WITHOUT[what]);
    }

    private void air() {
        check.term("aN AIR (0 to 500; without 0)");
        numberOf(0, 0, 500);
    }

    private void weight() {
        check.term("gN WEIGHT (0 to 100; 1)");
        numberOf(1, 0, 100);
    }

    private void bounce() {
        check.term("bN BOUNCE (0 to 1000; 500)");
        numberOf(2, 0, 1000);
    }

    private void grip() {
        check.term("rN GRIP (0 to 1000; 1000)");
        numberOf(3, 0, 1000);
    }

    private void squeeze() {
        check.term("qN SQUEEZE (0 to 100; 0)");
        numberOf(4, 0, 100);
    }

    private void sure() {
        check.term("tN SURE (51 to 100 hundredths; 90)");
        numberOf(5, 51, 100);
        faulty("t0;", "t1;");
    }

    private void lines() {
        check.term("lX,Y THE LINE is painted at Y (-9999 to 9999) from X (-9999 to 9999) on (without: at 0)");
        for (int x : new int[] {-9999, -1, 0, 1, 9999}) {
            for (int y : new int[] {-9999, -1, 0, 1, 9999}) {
                WasItOut o = Make.laid("l" + x + "," + y + ";");
                check.due("one ahead of " + x, o.line(x - 1), 0);
                check.due("at " + x, o.line(x), y);
                check.due("one behind " + x, o.line(x + 1), y);
                check.due("far behind", o.line(100000), y);
                check.due("far ahead", o.line(-100000), 0);
            }
        }
        faulty("l10000,0;", "l-10000,0;", "l0,10000;", "l0,-10000;");
        WasItOut none = Make.laid("g1;");
        for (int x : new int[] {-100000, -1, 0, 1, 100000}) {
            check.due("without, at " + x, none.line(x), 0);
        }
        WasItOut wiped = Make.laid("l-9999,5;");
        Make.lay(wiped, "");
        check.due("without, behind one with", wiped.line(0), 0);
    }

    private void linesOfSeveral() {
        check.term("of several the one of the greatest X no greater, of these the last");
        WasItOut x = Make.laid("l5,1;l-5,2;l5,3;l0,4;l-5,5;l5,6;l0,7;");
        int[] at = {-6, -5, -1, 0, 4, 5, 6, 100000};
        int[] due = {0, 5, 5, 7, 7, 6, 6, 6};
        for (int i = 0; i < at.length; i++) {
            check.due("line(" + at[i] + ")", x.line(at[i]), due[i]);
        }
        WasItOut falling = Make.laid("l9,1;l8,2;l7,3;");
        check.due("the greatest stands first", falling.line(9), 1);
        check.due("the next", falling.line(8), 2);
        check.due("the least", falling.line(7), 3);
        check.due("none yet", falling.line(6), 0);
    }

    private void wickets() {
        check.term("kW,Y,H WICKET: at W (-9999 to 9999), Y to each side of 0 (0 to 9999), H high (0 to 9999);"
            + " the last one (without: none)");
        good("k-9999,0,0;", "k9999,9999,9999;", "k0,0,0;", "k0,9999,0;", "k0,0,9999;");
        faulty("k-10000,0,0;", "k10000,0,0;", "k0,-1,0;", "k0,10000,0;", "k0,0,-1;", "k0,0,10000;", "k0,-9999,0;",
            "k0,0,-9999;");
        check.due("without", new WasItOut().would(1), NO);
        check.due("without", Make.laid("l1,1;").would(0), NO);
        // in TICK 1 it is at x 20, y m and s, z 9
        check.due("the last of two", Make.laid("k20,9999,9;k20,0,9;", 0, 0, 10, 20).would(0), 9);
        check.due("the last of two", Make.laid("k20,0,9;k20,9999,9;", 0, 0, 10, 20).would(0), 189);
        check.due("the last of three", Make.laid("k20,0,9;k20,9999,9;l1,1;k20,9999,8;", 0, 0, 10, 20).would(0), 0);
        WasItOut x = Make.laid("k1,2,3;");
        check.due("with", x.would(1), 189);
        Make.lay(x, "");
        check.due("without, behind one with", x.would(1), NO);
    }

    private void lastOfSeveral() {
        check.term("Of several of a letter of the first six the last.");
        for (int i = 0; i < 6; i++) {
            char c = LETTERS.charAt(i);
            check.due("of two " + c, Make.laid(c + "60;" + c + "70;").law(i), 70);
            check.due("of two " + c, Make.laid(c + "70;" + c + "60;").law(i), 60);
            check.due("with others between", Make.laid(c + "60;l5,5;k1,1,1;" + c + "99;l6,6;").law(i), 99);
            check.due("of fifty", Make.laid((c + "60;").repeat(49) + c + "80;").law(i), 80);
        }
    }

    private void faultPlace() {
        check.term("FAULT: the place of the first byte of the first ITEM that is not so.");
        check.due("the first byte of all", faultOf("x"), 0);
        check.due("not the byte that is wrong", faultOf("l123,45x;"), 0);
        check.due("not the number that is wrong", faultOf("g1;k1,2,-3;"), 3);
        check.due("the first of two", faultOf("g1;g101;g1;x"), 3);
        check.due("an ITEM that has no end", faultOf("g1;g10"), 3);
        String good = "g10;" + "g1;".repeat(65);
        check.due("of 199 bytes none", faultOf(good), NONE);
        check.due("the last byte of 200", faultOf(good + "x"), 199);
        check.due("a letter alone is the last byte of 200", faultOf(good + "g"), 199);
        check.due("an ITEM without an end at 200", faultOf("g10;".repeat(49) + "g100"), 196);
        check.due("an ITEM that ends at 200", faultOf("g10;".repeat(49) + "g10;"), NONE);
        WasItOut x = Make.written("g1;x");
        x.wipe();
        Make.put(x, "g1");
        check.due("bytes of before are no more", x.fault(), 0);
    }

    private void laidAtFirst() {
        check.term("LAID is a TEXT without FAULT (at first an empty one).");
        WasItOut x = new WasItOut();
        check.due("no ITEMS at first", x.count(1), 0);
        Make.put(x, "g7;");
        check.due("written is not laid", x.law(1), 1);
        check.due("written is not laid", x.count(1), 0);
        check.due("lay()", x.lay(), 1);
        check.due("laid", x.law(1), 7);
        Make.put(x, "g8;x");
        check.due("with a fault", x.lay(), NO);
        check.due("what was laid stays", x.law(1), 7);
        check.due("what was laid stays", x.count(1), 1);
        x.wipe();
        check.due("wiped, it is laid still", x.law(1), 7);
        check.due("an empty one", x.lay(), 0);
        check.due("an empty one", x.law(1), 1);
    }

    private void newObject() {
        check.promise(1, "An empty TEXT is LAID.");
        WasItOut x = new WasItOut();
        check.due("count(1)", x.count(1), 0);
        for (int i = 0; i < 6; i++) {
            check.due("law(" + i + ")", x.law(i), WITHOUT[i]);
        }
        check.due("line(-100000)", x.line(-100000), 0);
        check.due("line(100000)", x.line(100000), 0);
        check.due("would(0)", x.would(0), NO);
        check.due("fault()", x.fault(), NONE);
        check.due("lay()", x.lay(), 0);
        Make.full();
        check.due("another object's is its own", new WasItOut().count(1), 0);
    }

    private void write() {
        check.promise(2, "n bytes (1 to 8) of v, the highest first, come behind THE TEXT: how long it is.");
        String[] texts = {"", "", "", "a1;", "a12;", "l1,2;", "l1,20;", "k1,2,3;", "k1,2,30;"};
        for (int n = 3; n <= 8; n++) {
            WasItOut x = new WasItOut();
            check.due("write(" + n + ", ..)", x.write(n, Make.bytes(texts[n])), n);
            check.due("the highest first", x.fault(), NONE);
            check.due("behind it", x.write(n, Make.bytes(texts[n])), 2 * n);
            check.due("two ITEMS", x.lay(), 2);
        }
        WasItOut x = new WasItOut();
        check.due("two", x.write(2, Make.bytes("b4")), 2);
        check.due("one", x.write(1, Make.bytes("5")), 3);
        check.due("two", x.write(2, Make.bytes("6;")), 5);
        check.due("lay()", x.lay(), 1);
        check.due("in that order", x.law(2), 456);
        for (int n = 3; n <= 7; n++) {
            WasItOut y = new WasItOut();
            y.write(n, Make.bytes(texts[n]) | -1L << 8 * n);
            check.due("what stands above n bytes is not of them", y.fault(), NONE);
        }
        WasItOut high = new WasItOut();
        check.due("eight bytes of the lowest number", high.write(8, Long.MIN_VALUE), 8);
        check.due("byte 128 is no letter", high.fault(), 0);
        check.bounds("write", 1, 8, BAD, n -> new WasItOut().write(n, Make.bytes("k1,2,30;")));
    }

    private static WasItOut ofLength(int n) {
        return Make.written("g".repeat(n));
    }

    private void writeRefused() {
        check.promise(2, "BAD; FULL.");
        for (int n : new int[] {0, 9, -1, -8, Check.LOW, Check.HIGH}) {
            WasItOut x = ofLength(3);
            check.due("write(" + n + ", ..)", x.write(n, 0), BAD);
            check.due("nothing came", x.count(0), 3);
        }
        for (int n = 1; n <= 8; n++) {
            WasItOut x = ofLength(200 - n);
            check.due(n + " go in just so", x.write(n, 0), 200);
            WasItOut y = ofLength(201 - n);
            check.due(n + " are one too many", y.write(n, 0), FULL);
            check.due("not even a part of them", y.count(0), 201 - n);
            check.due("those that go in still do", n == 1 ? 200 : y.write(n - 1, 0), 200);
        }
        check.due("of both the first", ofLength(200).write(9, 0), BAD);
        check.due("of both the first", ofLength(200).write(0, 0), BAD);
    }

    private void wipe() {
        check.promise(3, "THE TEXT is empty: how long it was.");
        for (int n : new int[] {0, 1, 199, 200}) {
            WasItOut x = ofLength(n);
            check.due("wipe()", x.wipe(), n);
            check.due("count(0)", x.count(0), 0);
            check.due("wipe() once more", x.wipe(), 0);
            check.due("an empty text has no fault", x.fault(), NONE);
            check.due("and is written anew", x.write(3, Make.bytes("g2;")), 3);
        }
        WasItOut full = ofLength(200);
        full.wipe();
        Make.put(full, Make.longest());
        check.due("200 go in again", full.count(0), 200);
        check.due("and one more doesn't", full.write(1, 0), FULL);
    }

    private void fault() {
        check.promise(4, "FAULT. NONE.");
        check.due("of an empty text", new WasItOut().fault(), NONE);
        check.due("of one ITEM", faultOf("g1;"), NONE);
        check.due("of 200 bytes", faultOf(Make.longest()), NONE);
        check.due("at 0", faultOf("g1"), 0);
        check.due("behind", faultOf("g1;g"), 3);
        WasItOut x = Make.written("g1");
        check.due("not whole yet", x.fault(), 0);
        x.write(1, ';');
        check.due("whole", x.fault(), NONE);
        check.due("it is THE TEXT's, not that of what is laid", x.count(1), 0);
    }

    private void lay() {
        check.promise(5, "LAID: how many ITEMS.");
        check.due("none", new WasItOut().lay(), 0);
        check.due("one", Make.written("k1,2,3;").lay(), 1);
        check.due("one of each", Make.written("a1;g1;b1;r1;q1;t60;l1,1;k1,1,1;").lay(), 8);
        check.due("the most that go in", Make.written(Make.longest()).lay(), 66);
        WasItOut x = Make.written("g7;");
        check.due("lay()", x.lay(), 1);
        check.due("once more", x.lay(), 1);
        check.due("THE TEXT stays", x.count(0), 3);
    }

    private void layRefused() {
        check.promise(5, "NO: a FAULT.");
        check.due("at the first byte", Make.written("x").lay(), NO);
        check.due("at the last of 200", Make.written("g10;" + "g1;".repeat(65) + "x").lay(), NO);
        WasItOut x = Make.laid("a1;g2;b3;r4;q5;t66;l7,8;k9,9999,9999;");
        Make.put(x, "a9;g9;b9;r9;q9;t99;l7,9;k1,1,1;x");
        check.due("lay()", x.lay(), NO);
        int[] due = {1, 2, 3, 4, 5, 66};
        for (int i = 0; i < 6; i++) {
            check.due("law(" + i + ") is as it was", x.law(i), due[i]);
        }
        check.due("THE LINE is", x.line(7), 8);
        check.due("ITEMS are", x.count(1), 8);
        check.due("THE TEXT is", x.count(0), 37 + 32);
    }

    private void law() {
        check.promise(6, "0 AIR, 1 WEIGHT, 2 BOUNCE, 3 GRIP, 4 SQUEEZE, 5 SURE.");
        WasItOut x = Make.laid("a11;g22;b33;r44;q55;t66;");
        for (int i = 0; i < 6; i++) {
            check.due("law(" + i + ")", x.law(i), 11 * (i + 1));
        }
    }

    private void lawRefused() {
        check.promise(6, "BAD.");
        check.bounds("law", 0, 5, BAD, what -> new WasItOut().law(what));
        check.bounds("law", 0, 5, BAD, what -> Make.full().law(what));
    }

    private void line() {
        check.promise(7, "THE LINE at x (-100000 to 100000).");
        WasItOut x = Make.laid("l-9999,-9999;l9999,9999;");
        int[] at = {-100000, -10000, -9999, 9998, 9999, 100000};
        int[] due = {0, 0, -9999, -9999, 9999, 9999};
        for (int i = 0; i < at.length; i++) {
            check.due("line(" + at[i] + ")", x.line(at[i]), due[i]);
        }
    }

    private void lineRefused() {
        check.promise(7, "BAD answers -100000.");
        check.bounds("line", -100000, 100000, -100000, x -> new WasItOut().line(x));
        check.bounds("line", -100000, 100000, -100000, x -> Make.laid("l-9999,9999;").line(x));
    }
}
