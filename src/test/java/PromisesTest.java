/** One part a promise, with answers worked out by hand from the document. */
public final class PromisesTest {
    private static final int LOW = Integer.MIN_VALUE;
    private static final int HIGH = Integer.MAX_VALUE;
    private static final int BAD = -1, NO = -2, FULL = -3, NONE = -4;
    private static final int BAD_PLACE = -2000000000;
    private static final int NO_TOUCH = -2000000004;

    private static int wrong = 0;
    private static int promise = 0;

    private static void due(String what, long got, long want) {
        if (got != want) {
            wrong++;
            System.out.println("promise " + promise + ": " + what + " answered " + got + ", due is " + want);
        }
    }

    /** Writes a text a byte at a time where it is short, eight at a time where it can. */
    private static void put(WasItOut x, String s) {
        for (int from = 0; from < s.length(); from += 8) {
            String piece = s.substring(from, Math.min(s.length(), from + 8));
            long v = 0;
            for (char c : piece.toCharArray()) {
                v = v << 8 | c;
            }
            x.write(piece.length(), v);
        }
    }

    private static WasItOut laid(String s) {
        WasItOut x = new WasItOut();
        put(x, s);
        due("lay() of " + s + " is no fault", x.lay() >= 0 ? 1 : 0, 1);
        return x;
    }

    private static void begin(WasItOut x, int... ball) {
        for (int i = 0; i < ball.length; i++) {
            x.ball(i, ball[i]);
        }
    }

    private static int faultOf(String s) {
        WasItOut x = new WasItOut();
        put(x, s);
        int fault = x.fault();
        due("lay() of " + s, x.lay() == NO ? 1 : 0, fault == NONE ? 0 : 1);
        return fault;
    }

    public static void main(String[] args) {
        newObject();
        writing();
        wiping();
        faults();
        laying();
        laws();
        lines();
        balls();
        flying();
        touching();
        cameras();
        blurs();
        marks();
        hearing();
        noSights();
        leaving();
        fits();
        fitting();
        odds();
        shown();
        apart();
        moved();
        whose();
        would();
        calls();
        leans();
        sorts();
        worth();
        when();
        cases();
        sure();
        keeping();
        goingBack();
        counts();
        System.out.println(wrong == 0 ? "all promises are kept" : wrong + " answers are not as due");
        if (wrong != 0) {
            System.exit(1);
        }
    }

    private static void newObject() {
        promise = 1;
        WasItOut x = new WasItOut();
        for (int i = 0; i < 6; i++) {
            due("count(" + i + ")", x.count(i), 0);
            due("at(94, 0, " + i + ")", x.at(94, 0, i), 0);
        }
        due("fault()", x.fault(), NONE);
        due("line(0)", x.line(0), 0);
        due("fitting(-1)", x.fitting(-1), 189);
        due("would(0)", x.would(0), NO);
        due("leave(0)", x.leave(0), 0);
        due("back()", x.back(), NO);
        due("lay()", x.lay(), 0);
        due("BAD", WasItOut.BAD, BAD);
        due("NO", WasItOut.NO, NO);
        due("FULL", WasItOut.FULL, FULL);
        due("NONE", WasItOut.NONE, NONE);
    }

    private static void writing() {
        promise = 2;
        WasItOut x = new WasItOut();
        for (int n : new int[] {0, -1, 9, LOW, HIGH}) {
            due("write(" + n + ", ..)", x.write(n, 0x61), BAD);
        }
        due("nothing written", x.count(0), 0);
        due("write(1, 'a')", x.write(1, 'a'), 1);
        due("the highest first", x.write(3, '1' << 16 | '2' << 8 | ';'), 4);
        due("lay()", x.lay(), 1);
        due("law(0)", x.law(0), 12);
        x.wipe();
        due("bytes above the n lowest are not of it", x.write(3, 0x7fffffffff000000L | 'g' << 16 | '7' << 8 | ';'), 3);
        due("lay()", x.lay(), 1);
        due("law(1)", x.law(1), 7);
        x.wipe();
        due("eight of a number below 0", x.write(8, -1L), 8);
        due("fault()", x.fault(), 0);
        for (int i = 2; i <= 24; i++) {
            due("write(8, ..)", x.write(8, 0), 8 * i);
        }
        due("write(7, ..)", x.write(7, 0), 199);
        due("two more than 200", x.write(2, 0), FULL);
        due("still 199", x.count(0), 199);
        due("write(1, ..)", x.write(1, 0), 200);
        due("write(1, ..)", x.write(1, 0), FULL);
        due("BAD is ahead of FULL", x.write(9, 0), BAD);
    }

    private static void wiping() {
        promise = 3;
        WasItOut x = laid("g9;q3;");
        due("wipe()", x.wipe(), 6);
        due("wipe()", x.wipe(), 0);
        due("count(0)", x.count(0), 0);
        due("what is laid stays", x.law(1), 9);
        due("its items, too", x.count(1), 2);
        put(x, "a1;");
        due("written from the start again", x.fault(), NONE);
        due("count(0)", x.count(0), 3);
    }

    private static void faults() {
        promise = 4;
        String[] good = {"", "a0;", "a500;", "g0;", "g100;", "b0;", "b1000;", "r0;", "r1000;", "q0;", "q100;", "t51;",
            "t100;", "a0007;", "l-9999,9999;", "l9999,-9999;", "k-9999,0,0;", "k9999,9999,9999;", "l0,0;l0,0;",
            "l-01,1;", "a1;a2;g3;"};
        for (String s : good) {
            due("fault of " + s, faultOf(s), NONE);
        }
        String[] bad = {"a501;", "a-1;", "g101;", "b1001;", "r1001;", "q101;", "t50;", "t101;", "t0;", "a-0;", "a;", "a-;",
            "a", "a1", ";", ",", "x1;", "A1;", " a1;", "a 1;", "a1,2;", "a00001;", "a+1;", "l1;", "l1,2,3;", "l1,;",
            "l,1;", "l-0,1;", "l1,-0;", "l1,-00;", "l10000,1;", "l1,--2;", "k1,2;", "k1,-1,2;", "k1,2,-1;", "k1,2,3,4;",
            "k10000,1,1;", "1;", "\u00e1" + "1;", "\0"};
        for (String s : bad) {
            due("fault of " + s, faultOf(s), 0);
            due("fault behind items, of " + s, faultOf("g5;l-7,8;" + s + "a1;"), 9);
        }
        due("a tail that is no item", faultOf("g5;a"), 3);
        due("two ends", faultOf("g5;;"), 3);
        due("the first of two faults", faultOf("g5;t50;t50;"), 3);
    }

    private static void laying() {
        promise = 5;
        WasItOut x = laid("a3;g4;b5;r6;q7;t88;l1,2;k3,4,5;");
        due("count(1)", x.count(1), 8);
        due("lay() once more", x.lay(), 8);
        put(x, "t50;");
        due("lay()", x.lay(), NO);
        due("nothing changes then", x.law(5), 88);
        due("items stay", x.count(1), 8);
        x.wipe();
        due("lay() of nothing", x.lay(), 0);
        due("without a", x.law(0), 0);
        due("without l", x.line(5), 0);
        due("without k", x.would(0), NO);
        WasItOut y = new WasItOut();
        begin(y, 0, 0, 10);
        due("touch(94, 0)", y.touch(94, 0), 4);
        put(y, "g10;");
        due("not laid yet", y.touch(94, 0), 4);
        y.lay();
        due("a law counts from when it is laid", y.touch(94, 0), 1);
        WasItOut z = new WasItOut();
        for (int i = 0; i < 40; i++) {
            put(z, "l" + i % 10 + "," + (i % 9 + 1) + ";");
        }
        due("forty lines", z.lay(), 40);
        due("the last of the greatest", z.line(100), 39 % 9 + 1);
    }

    private static void laws() {
        promise = 6;
        WasItOut x = new WasItOut();
        int[] without = {0, 1, 500, 1000, 0, 90};
        WasItOut y = laid("a1;a3;g2;g4;b1;b5;r1;r6;q1;q7;t99;t88;");
        int[] last = {3, 4, 5, 6, 7, 88};
        for (int i = 0; i < 6; i++) {
            due("law(" + i + ") without", x.law(i), without[i]);
            due("law(" + i + ") of several", y.law(i), last[i]);
        }
        for (int what : new int[] {-1, 6, LOW, HIGH}) {
            due("law(" + what + ")", x.law(what), BAD);
        }
    }

    private static void lines() {
        promise = 7;
        WasItOut x = laid("l10,7;l-10,3;l10,8;l20,-5;l0,4;");
        due("line(-11)", x.line(-11), 0);
        due("line(-100000)", x.line(-100000), 0);
        due("line(-10)", x.line(-10), 3);
        due("line(-1)", x.line(-1), 3);
        due("line(0)", x.line(0), 4);
        due("line(9)", x.line(9), 4);
        due("of two at 10 the last", x.line(10), 8);
        due("line(19)", x.line(19), 8);
        due("line(20)", x.line(20), -5);
        due("line(100000)", x.line(100000), -5);
        for (int v : new int[] {-100001, 100001, LOW, HIGH}) {
            due("line(" + v + ")", x.line(v), -100000);
        }
    }

    private static void balls() {
        promise = 8;
        WasItOut x = new WasItOut();
        int[] low = {-100000, -100000, 0, -2000, -2000, -2000};
        int[] high = {100000, 100000, 100000, 2000, 2000, 2000};
        for (int i = 0; i < 6; i++) {
            due("ball(" + i + ", lowest)", x.ball(i, low[i]), 0);
            due("ball(" + i + ", below)", x.ball(i, low[i] - 1), -1000000);
            due("ball(" + i + ", above)", x.ball(i, high[i] + 1), -1000000);
            due("ball(" + i + ", LOW)", x.ball(i, LOW), -1000000);
            due("ball(" + i + ", HIGH)", x.ball(i, HIGH), -1000000);
            due("it began so", x.at(94, 0, i), low[i]);
            due("ball(" + i + ", highest)", x.ball(i, high[i]), low[i]);
            due("it begins so", x.at(94, 0, i), high[i]);
        }
        for (int what : new int[] {-1, 6, LOW, HIGH}) {
            due("ball(" + what + ", 0)", x.ball(what, 0), -1000000);
        }
    }

    private static void flying() {
        promise = 9;
        // AIR takes 100 of 1000: 1000 to 900, -15 to -14 (1.5 is cut), 9 stays (0.9 is cut)
        WasItOut x = laid("a100;g2;b700;r500;q10;");
        begin(x, 5, 6, 7, 1000, -15, 9);
        int[] first = {905, -8, 14, 900, -14, 7};
        for (int i = 0; i < 6; i++) {
            due("at(94, 1, " + i + ")", x.at(94, 1, i), first[i]);
        }
        // curve 0: v is -25, less by -2 (2.5 is cut), SPIN -4: -27; curve 188: -5, 0, 4: -1
        due("at(0, 0, 4)", x.at(0, 0, 4), -25);
        due("at(0, 1, 4)", x.at(0, 1, 4), -27);
        due("at(0, 1, 1)", x.at(0, 1, 1), -21);
        due("at(188, 0, 4)", x.at(188, 0, 4), -5);
        due("at(188, 1, 4)", x.at(188, 1, 4), -1);
        due("at(188, 1, 1)", x.at(188, 1, 1), 5);
        due("at(9, 0, 4)", x.at(9, 0, 4), -24);
        due("at(1, 1, 4)", x.at(1, 1, 4), -26);
        // w goes 7, 5, 3, 1, -1, -3, -5, -7, -9: z 14, 19, 22, 23, 22, 19, 14, 7, -2; there it bounces with 6
        due("at(94, 9, 2)", x.at(94, 9, 2), 0);
        due("at(94, 9, 5)", x.at(94, 9, 5), 6);
        due("at(94, 10, 2)", x.at(94, 10, 2), 4);
        due("u is gripped", x.at(94, 9, 3), gripped());
        WasItOut y = laid("g0;");
        begin(y, 1, 2, 0, 2000, 2000, 0);
        due("without weight it stays", y.at(94, 600, 2), 0);
        due("and doesn't touch", y.touch(94, 0), NO_TOUCH);
        due("x is not bounded on the way", y.at(94, 600, 0), 1200001);
        // 2 and 600 times 2010, and 4 times 600 times 601 by 2
        due("y neither", y.at(188, 600, 1), 2 + 600 * 2010 + 4 * 300 * 601);
        int[][] bad = {{-1, 0, 0}, {189, 0, 0}, {0, -1, 0}, {0, 601, 0}, {0, 0, -1}, {0, 0, 6}, {LOW, 0, 0}, {HIGH, 0, 0},
            {0, LOW, 0}, {0, HIGH, 0}, {0, 0, LOW}, {0, 0, HIGH}};
        for (int[] b : bad) {
            due("at(" + b[0] + ", " + b[1] + ", " + b[2] + ")", x.at(b[0], b[1], b[2]), BAD_PLACE);
        }
    }

    private static int gripped() {
        int u = 1000;
        for (int t = 1; t <= 9; t++) {
            u -= u * 100 / 1000;
        }
        return u * 500 / 1000;
    }

    private static void touching() {
        promise = 10;
        // z 10 with weight 1: w -1, -2, -3, -4 in TICK 4; HALF 35 times 4 by 10
        WasItOut x = laid("q35;l80,10;");
        begin(x, 0, 0, 10, 20, 6, 0);
        due("touch(94, 0)", x.touch(94, 0), 4);
        due("touch(94, 1)", x.touch(94, 1), 80);
        due("touch(94, 2)", x.touch(94, 2), 24);
        due("touch(94, 3)", x.touch(94, 3), 14);
        due("24 less 14 is not above 10", x.touch(94, 4), 0);
        due("touch(95, 2)", x.touch(95, 2), 34);
        due("34 less 14 is", x.touch(95, 4), 1);
        due("four more", x.touch(103, 2), 28);
        due("28 less 14 is", x.touch(103, 4), 1);
        due("the line is asked at x", laidLater().touch(94, 4), 1);
        WasItOut y = laid("g0;");
        due("a ball that lies", y.touch(94, 4), NO_TOUCH);
        begin(y, 0, 0, 600, 0, 0, -1);
        due("z is 0 in the last TICK", y.touch(94, 0), 600);
        y.ball(2, 601);
        due("touch(94, 0)", y.touch(94, 0), NO_TOUCH);
        due("what is no part comes first", y.touch(94, 5), BAD_PLACE);
        int[][] bad = {{-1, 0}, {189, 0}, {0, -1}, {0, 5}, {LOW, 0}, {HIGH, 0}, {0, LOW}, {0, HIGH}};
        for (int[] b : bad) {
            due("touch(" + b[0] + ", " + b[1] + ")", x.touch(b[0], b[1]), BAD_PLACE);
        }
    }

    private static WasItOut laidLater() {
        WasItOut x = laid("q35;l81,10;");
        begin(x, 0, 0, 10, 20, 6, 0);
        return x;
    }

    private static void cameras() {
        promise = 11;
        WasItOut x = new WasItOut();
        for (int c = 0; c < 4; c++) {
            for (int i = 0; i < 3; i++) {
                due("camera(" + c + ", " + i + ", -10)", x.camera(c, i, -10), 0);
                due("camera(" + c + ", " + i + ", 10)", x.camera(c, i, 10), -10);
                due("camera(" + c + ", " + i + ", 11)", x.camera(c, i, 11), -100);
                due("camera(" + c + ", " + i + ", 1)", x.camera(c, i, c + i), 10);
            }
        }
        due("each has its own", x.camera(2, 1, 0), 3);
        due("each has its own", x.camera(1, 2, 0), 3);
        due("each has its own", x.camera(3, 2, 0), 5);
        int[][] bad = {{-1, 0, 0}, {4, 0, 0}, {0, -1, 0}, {0, 3, 0}, {0, 0, -11}, {LOW, 0, 0}, {HIGH, 0, 0}, {0, LOW, 0},
            {0, HIGH, 0}, {0, 0, LOW}, {0, 0, HIGH}};
        for (int[] b : bad) {
            due("camera(" + b[0] + ", " + b[1] + ", " + b[2] + ")", x.camera(b[0], b[1], b[2]), -100);
        }
        WasItOut y = new WasItOut();
        begin(y, 3, 0, 9);
        y.blur(0, 0, 9, 0);
        due("it sees nothing", y.fits(94, 0), 0);
        y.camera(0, 2, 10);
        due("it sees z", y.fits(94, 0), 1);
        y.camera(0, 0, 10);
        due("it sees x and z", y.fits(94, 0), 0);
    }

    private static void blurs() {
        promise = 12;
        WasItOut x = new WasItOut();
        int[][] bad = {{-1, 0, 0, 0}, {4, 0, 0, 0}, {0, -1, 0, 0}, {0, 601, 0, 0}, {0, 0, -1000001, 0}, {0, 0, 1000001, 0},
            {0, 0, 0, -1}, {0, 0, 0, 1001}, {LOW, 0, 0, 0}, {HIGH, 0, 0, 0}, {0, LOW, 0, 0}, {0, HIGH, 0, 0}, {0, 0, LOW, 0},
            {0, 0, HIGH, 0}, {0, 0, 0, LOW}, {0, 0, 0, HIGH}};
        for (int[] b : bad) {
            due("blur(" + b[0] + ", " + b[1] + ", " + b[2] + ", " + b[3] + ")", x.blur(b[0], b[1], b[2], b[3]), BAD);
        }
        due("none came", x.count(2), 0);
        due("the edges", x.blur(0, 0, -1000000, 0), 0);
        due("the edges", x.blur(3, 600, 1000000, 1000), 1);
        for (int i = 2; i < 30; i++) {
            due("blur", x.blur(i % 4, i, i, i), i);
        }
        due("the 31st", x.blur(0, 0, 0, 0), FULL);
        due("BAD is ahead of FULL", x.blur(4, 0, 0, 0), BAD);
        due("count(2)", x.count(2), 30);
        // 1 times 19 and 2 times -7 and -3 times 8 are -19: by 10, cut, -1
        WasItOut y = laid("g0;");
        begin(y, 19, -7, 8);
        y.camera(2, 0, 1);
        y.camera(2, 1, 2);
        y.camera(2, 2, -3);
        y.blur(2, 0, -1, 0);
        y.blur(2, 0, -2, 0);
        y.blur(2, 0, 4, 5);
        y.blur(2, 0, 5, 5);
        y.blur(2, 0, -6, 5);
        y.blur(2, 0, -7, 5);
        int[] fit = {1, 0, 1, 0, 1, 0};
        for (int i = 0; i < fit.length; i++) {
            due("fits(94, " + i + ")", y.fits(94, i), fit[i]);
        }
        WasItOut z = new WasItOut();
        begin(z, 0, 0, 10);
        z.camera(1, 2, 10);
        z.blur(1, 3, 4, 0);
        z.blur(1, 4, 0, 0);
        z.blur(1, 5, 1, 0);
        due("before the bounce, by it, behind it", z.fitting(-1), 189);
    }

    private static void marks() {
        promise = 13;
        WasItOut x = new WasItOut();
        int[][] bad = {{-100001, 0, 0}, {100001, 0, 0}, {0, -100001, 0}, {0, 100001, 0}, {0, 0, -1}, {0, 0, 1001},
            {LOW, 0, 0}, {HIGH, 0, 0}, {0, LOW, 0}, {0, HIGH, 0}, {0, 0, LOW}, {0, 0, HIGH}};
        for (int[] b : bad) {
            due("mark(" + b[0] + ", " + b[1] + ", " + b[2] + ")", x.mark(b[0], b[1], b[2]), BAD);
        }
        due("the edges", x.mark(-100000, 100000, 0), 0);
        due("the edges", x.mark(100000, -100000, 1000), 1);
        for (int i = 2; i < 30; i++) {
            x.mark(0, 0, 0);
        }
        due("the 31st", x.mark(0, 0, 0), FULL);
        due("BAD is ahead of FULL", x.mark(0, 0, 1001), BAD);
        // curve 94 touches at (80, 24), curve 103 at (80, 28)
        WasItOut y = new WasItOut();
        begin(y, 0, 0, 10, 20, 6, 0);
        y.mark(77, 21, 3);
        y.mark(83, 27, 3);
        y.mark(76, 24, 3);
        y.mark(84, 24, 3);
        y.mark(80, 20, 3);
        y.mark(80, 28, 3);
        int[] fit = {1, 1, 0, 0, 0, 0};
        for (int i = 0; i < fit.length; i++) {
            due("fits(94, " + i + ")", y.fits(94, i), fit[i]);
        }
        due("fits(103, 5)", y.fits(103, 5), 1);
        // it touches again in TICK 7, at x 140: that is not its TOUCH
        y.mark(140, 42, 0);
        due("the first touch alone", y.fits(94, 6), 0);
        WasItOut z = laid("g0;");
        z.mark(0, 0, 1000);
        due("a mark wants a touch", z.fitting(-1), 0);
    }

    private static void hearing() {
        promise = 14;
        WasItOut x = new WasItOut();
        int[] good = {0, 0, 0, 0, 1};
        int[][] edges = {{-100000, 100000}, {-100000, 100000}, {0, 600}, {0, 1000}, {1, 500}};
        for (int i = 0; i < 5; i++) {
            for (int v : new int[] {edges[i][0] - 1, edges[i][1] + 1, LOW, HIGH}) {
                int[] a = good.clone();
                a[i] = v;
                due("heard with " + v + " for the " + i + "th", x.heard(a[0], a[1], a[2], a[3], a[4]), BAD);
            }
        }
        due("none came", x.count(2), 0);
        due("the lowest", x.heard(-100000, -100000, 0, 0, 1), 0);
        due("the highest", x.heard(100000, 100000, 600, 1000, 500), 1);
        for (int i = 2; i < 30; i++) {
            x.heard(0, 0, 0, 0, 1);
        }
        due("the 31st", x.heard(0, 0, 0, 0, 1), FULL);
        due("BAD is ahead of FULL", x.heard(0, 0, 0, 0, 0), BAD);
        // curve 94 touches in TICK 4 at (80, 24)
        WasItOut y = new WasItOut();
        begin(y, 0, 0, 10, 20, 6, 0);
        int[][] heard = {{80, 24, 4, 0, 1, 1}, {80, 24, 5, 0, 1, 0}, {81, 24, 5, 0, 500, 1}, {60, 30, 8, 0, 5, 1},
            {59, 30, 9, 0, 5, 1}, {59, 30, 8, 0, 5, 0}, {85, 4, 8, 0, 5, 1}, {80, 24, 6, 2, 9, 1}, {80, 24, 7, 2, 9, 0},
            {80, 24, 2, 2, 9, 1}, {80, 24, 1, 2, 9, 0}};
        for (int i = 0; i < heard.length; i++) {
            int[] h = heard[i];
            due("heard", y.heard(h[0], h[1], h[2], h[3], h[4]), i);
            due("fits(94, " + i + ")", y.fits(94, i), h[5]);
        }
        WasItOut z = laid("g0;");
        z.heard(0, 0, 0, 1000, 1);
        due("a sound wants a touch", z.fitting(-1), 0);
    }

    private static void noSights() {
        promise = 15;
        WasItOut x = new WasItOut();
        due("noSights()", x.noSights(), 0);
        x.leave(5);
        x.mark(9, 9, 0);
        x.blur(1, 0, 1000, 0);
        x.heard(0, 0, 600, 0, 1);
        due("fitting(-1)", x.fitting(-1), 0);
        due("noSights()", x.noSights(), 3);
        due("count(2)", x.count(2), 0);
        due("fitting(-1)", x.fitting(-1), 189);
        due("shown(1)", x.shown(1), 0);
        due("what is left out stays", x.leave(0), 5);
        due("numbered from 0 again", x.blur(0, 0, 0, 0), 0);
        due("and fitting", x.fitting(-1), 189);
    }

    private static void leaving() {
        promise = 16;
        WasItOut x = new WasItOut();
        for (int v : new int[] {-1, 16, LOW, HIGH}) {
            due("leave(" + v + ")", x.leave(v), BAD);
        }
        due("leave(15)", x.leave(15), 0);
        due("leave(0)", x.leave(0), 15);
        for (int c = 0; c < 4; c++) {
            x.noSights();
            x.blur(c, 0, 7, 0);
            x.leave(15 - (1 << c));
            due("camera " + c + " stays", x.fitting(-1), 0);
            x.leave(1 << c);
            due("camera " + c + " is left out", x.fitting(-1), 189);
        }
    }

    private static void fits() {
        promise = 17;
        WasItOut x = new WasItOut();
        begin(x, 0, 0, 10);
        x.camera(0, 1, 10);
        due("no sights", x.fits(0, -1), 1);
        due("no sight 0", x.fits(0, 0), BAD);
        // in TICK 1 y is m and s: 12 from the curves (10, 2), (9, 3), (8, 4)
        x.blur(0, 1, 12, 0);
        due("fits", x.fits(9 * 20 + 6, 0), 1);
        due("fits", x.fits(9 * 20 + 7, 0), 0);
        due("fits", x.fits(9 * 19 + 7, -1), 1);
        x.blur(1, 1, 12, 0);
        due("the second isn't so", x.fits(9 * 19 + 7, -1), 0);
        x.leave(2);
        due("it is left out", x.fits(9 * 19 + 7, -1), 1);
        due("but asked for by itself", x.fits(9 * 19 + 7, 1), 0);
        x.leave(1);
        due("that is left out which fits", x.fits(9 * 19 + 7, -1), 0);
        due("fits", x.fits(9 * 19 + 7, 0), 1);
        int[][] bad = {{-1, 0}, {189, 0}, {0, -2}, {0, 2}, {LOW, 0}, {HIGH, 0}, {0, LOW}, {0, HIGH}};
        for (int[] b : bad) {
            due("fits(" + b[0] + ", " + b[1] + ")", x.fits(b[0], b[1]), BAD);
        }
    }

    private static void fitting() {
        promise = 18;
        WasItOut x = new WasItOut();
        x.camera(0, 1, 10);
        due("all", x.fitting(-1), 189);
        due("the last", x.fitting(188), 188);
        due("there are no more", x.fitting(189), NONE);
        x.blur(0, 1, 12, 0);
        int[] due = {9 * 18 + 8, 9 * 19 + 7, 9 * 20 + 6};
        due("fitting(-1)", x.fitting(-1), 3);
        for (int i = 0; i < 3; i++) {
            due("fitting(" + i + ")", x.fitting(i), due[i]);
        }
        due("fitting(3)", x.fitting(3), NONE);
        due("fitting(HIGH)", x.fitting(HIGH), NONE);
        due("fitting(-2)", x.fitting(-2), BAD);
        due("fitting(LOW)", x.fitting(LOW), BAD);
        x.ball(1, 1);
        due("another ball", x.fitting(-1), 4);
        x.ball(1, 0);
        x.camera(0, 1, 5);
        due("half of y: 24 and 25", x.fitting(-1), 0);
    }

    private static void odds() {
        promise = 19;
        // touches in TICK 1 at y m and s; fitting below are those of y 10: 5 curves (6, 4) to (10, 0)
        WasItOut x = laid("l0,9;");
        due("odds(0)", x.odds(0), outOfAll(9));
        due("odds(1)", x.odds(1), 189 - outOfAll(9));
        x.camera(0, 1, 10);
        x.blur(0, 1, 10, 0);
        due("odds(0)", x.odds(0), 5);
        due("odds(1)", x.odds(1), 0);
        due("odds(2)", x.odds(2), 2);
        x.noSights();
        x.blur(0, 1, 9, 0);
        due("odds(1)", x.odds(1), 6);
        due("odds(2)", x.odds(2), 0);
        x.noSights();
        x.blur(0, 1, 9, 1);
        // y 8, 9, 10: 7 and 6 in, 5 out
        due("odds(0)", x.odds(0), 5);
        due("odds(1)", x.odds(1), 13);
        due("13 of 18 are no nine tenths", x.odds(2), 1);
        put(x, "t72;");
        x.lay();
        due("1300 is 72 times 18 or more", x.odds(2), 0);
        x.wipe();
        put(x, "l0,9;t73;");
        x.lay();
        due("1300 is less than 73 times 18", x.odds(2), 1);
        x.blur(1, 1, 9, 0);
        due("odds(0), none fits", x.odds(0), 0);
        due("odds(1), none fits", x.odds(1), 0);
        due("odds(2), none fits", x.odds(2), NONE);
        for (int v : new int[] {-1, 3, LOW, HIGH}) {
            due("odds(" + v + ")", x.odds(v), BAD);
        }
        for (int line = -15; line <= 14; line++) {
            for (int t = 51; t <= 100; t++) {
                int out = outOfAll(line);
                int called = 100 * out >= t * 189 ? 2 : 100 * (189 - out) >= t * 189 ? 0 : 1;
                due("odds(2) by a line at " + line + ", sure " + t, laid("l0," + line + ";t" + t + ";").odds(2), called);
            }
        }
        WasItOut y = laid("g0;");
        due("without a touch neither out", y.odds(0), 0);
        due("nor in", y.odds(1), 0);
        due("can't be told", y.odds(2), 1);
    }

    private static int outOfAll(int line) {
        int many = 0;
        for (int m = -10; m <= 10; m++) {
            for (int s = -4; s <= 4; s++) {
                many += m + s > line ? 1 : 0;
            }
        }
        return many;
    }

    private static void shown() {
        promise = 20;
        WasItOut x = new WasItOut();
        due("nothing seen", x.shown(0), 0);
        due("nothing off", x.shown(1), 0);
        x.camera(0, 1, 10);
        x.camera(1, 1, 10);
        // y in TICK 1 is m and s, in TICK 2 it is 2 m and 3 s: 12 and 30 are those of (6, 6), which isn't there;
        // (8, 4) is off by 0 and 2, (9, 4) by 1 and 0
        x.blur(0, 1, 12, 0);
        x.blur(1, 2, 30, 0);
        due("the least sum", x.shown(1), 1);
        due("the curve", x.shown(0), 9 * 19 + 8);
        due("though none fits", x.fitting(-1), 0);
        x.leave(2);
        due("one left out", x.shown(1), 0);
        due("the lowest of those", x.shown(0), 9 * 18 + 8);
        x.leave(1);
        // 2 m and 3 s are 30: (9, 4) first
        due("the other left out", x.shown(0), 9 * 19 + 8);
        due("the other left out", x.shown(1), 0);
        x.leave(15);
        due("all left out", x.shown(0), 0);
        due("all left out", x.shown(1), 0);
        x.leave(0);
        x.mark(99, 99, 0);
        due("marks don't count", x.shown(1), 1);
        for (int v : new int[] {-1, 2, LOW, HIGH}) {
            due("shown(" + v + ")", x.shown(v), BAD);
        }
        WasItOut y = new WasItOut();
        for (int i = 0; i < 30; i++) {
            y.blur(0, 0, i % 2 == 0 ? 1000000 : -1000000, 0);
        }
        due("thirty times a million", y.shown(1), 30000000);
    }

    private static void apart() {
        promise = 21;
        WasItOut x = new WasItOut();
        begin(x, 0, 0, 10, 20, 6, 0);
        // in TICK 4 an m is worth 4, an s 10
        due("apart(94, 94)", x.apart(94, 94), 0);
        due("apart(94, 95)", x.apart(94, 95), 10);
        due("apart(95, 94)", x.apart(95, 94), 10);
        due("apart(94, 103)", x.apart(94, 103), 4);
        due("apart(0, 188)", x.apart(0, 188), 160);
        int[][] bad = {{-1, 0}, {189, 0}, {0, -1}, {0, 189}, {LOW, 0}, {0, HIGH}};
        WasItOut y = laid("g0;");
        due("one has no touch", y.apart(0, 1), NONE);
        for (int[] b : bad) {
            due("apart(" + b[0] + ", " + b[1] + ")", x.apart(b[0], b[1]), BAD);
            due("BAD is ahead of NONE", y.apart(b[0], b[1]), BAD);
        }
    }

    private static void moved() {
        promise = 22;
        WasItOut x = new WasItOut();
        due("nothing seen", x.moved(), 0);
        x.blur(3, 0, 5, 4);
        due("camera 3", x.moved(), 8);
        x.blur(1, 0, 5, 4);
        due("cameras 1 and 3", x.moved(), 10);
        x.leave(8);
        due("besides 3", x.moved(), 2);
        x.leave(10);
        due("none besides", x.moved(), 0);
        x.leave(4);
        due("another one left out", x.moved(), 10);
        x.leave(0);
        x.blur(0, 0, 5, 4);
        x.blur(2, 0, 5, 4);
        due("all of them", x.moved(), 15);
        x.mark(9999, 0, 0);
        due("a mark can't be left out", x.moved(), NONE);
        WasItOut y = new WasItOut();
        y.camera(1, 1, 10);
        y.camera(2, 1, 10);
        y.camera(3, 1, 10);
        y.blur(3, 1, 3, 0);
        y.blur(1, 1, 4, 0);
        due("of two the least bits", y.moved(), 2);
        y.blur(2, 1, 5, 0);
        due("of three pairs the least bits", y.moved(), 6);
        y.blur(0, 1, 1, 0);
        due("and one that sees nothing", y.moved(), 7);
        y.noSights();
        y.blur(3, 1, 3, 0);
        y.blur(1, 1, 4, 0);
        y.blur(2, 1, 4, 0);
        due("one is fewer than two, though its bits are more", y.moved(), 8);
    }

    private static void whose() {
        promise = 23;
        WasItOut x = new WasItOut();
        x.camera(0, 1, 10);
        due("no sight 0", x.whose(0), BAD);
        x.blur(0, 1, 12, 1);
        due("a blur", x.whose(0), BAD);
        // y is 11 to 13 by the blur
        x.mark(0, 12, 1);
        x.mark(0, 13, 1);
        x.mark(0, 20, 1);
        x.heard(0, 12, 2, 0, 1);
        x.heard(0, 12, 2, 1, 1);
        x.heard(0, 12, 9, 1, 1);
        int[] due = {2, 1, 0, 1, 2, 0};
        for (int i = 0; i < due.length; i++) {
            due("whose(" + (i + 1) + ")", x.whose(i + 1), due[i]);
        }
        x.blur(1, 1, 99, 0);
        due("no curve fits the blurs", x.whose(1), 0);
        x.leave(2);
        due("whose(1)", x.whose(1), 2);
        x.leave(3);
        due("all curves are asked", x.whose(1), 1);
        for (int v : new int[] {-1, 8, 30, LOW, HIGH}) {
            due("whose(" + v + ")", x.whose(v), BAD);
        }
    }

    private static void would() {
        promise = 24;
        WasItOut x = new WasItOut();
        due("no wicket", x.would(0), NO);
        due("no wicket", x.would(1), NO);
        for (int v : new int[] {-1, 2, LOW, HIGH}) {
            due("would(" + v + ")", x.would(v), BAD);
        }
        // x 20, 40, 60 ..; z 9, 7, 4, 0 and 1, 1, 0 behind the bounce
        due("x at W, z at H", wicket(20, 0, 9).would(0), 9);
        due("too high", wicket(20, 0, 8).would(0), 0);
        due("in the first TICK at W or more", wicket(21, 0, 7).would(0), 5);
        due("wider by Y", wicket(20, 1, 9).would(0), 27);
        due("of all", wicket(20, 1, 9).would(1), 189);
        due("begins below W", wicket(1, 0, 9).would(0), 9);
        due("begins at W", wicket(0, 9999, 9999).would(0), 0);
        due("begins behind W", wicket(-5, 9999, 9999).would(0), 0);
        due("of all nonetheless", wicket(-5, 9999, 9999).would(1), 189);
        due("behind the bounce", wicket(100, 9999, 1).would(0), 189);
        due("behind the bounce", wicket(100, 9999, 0).would(0), 0);
        WasItOut slow = wicket(600, 9999, 9999);
        slow.ball(3, 1);
        due("in the last TICK", slow.would(0) > 0 ? 1 : 0, 1);
        slow.ball(0, -1);
        due("it doesn't come so far", slow.would(0), 0);
        WasItOut last = laid("k5,5,5;k20,0,9;");
        begin(last, 0, 0, 10, 20, 0, 0);
        due("the last wicket", last.would(0), 9);
        last.camera(0, 1, 10);
        last.blur(0, 1, 1, 1);
        due("of those that fit", last.would(1), 9 + 9 + 9);
        due("those that fit", last.would(0), 9);
        last.blur(0, 1, 2, 1);
        due("of those that fit both", last.would(1), 9 + 9);
        due("none of them", last.would(0), 0);
    }

    private static WasItOut wicket(int w, int y, int h) {
        WasItOut x = laid("k" + w + "," + y + "," + h + ";");
        begin(x, 0, 0, 10, 20, 0, 0);
        return x;
    }

    private static void calls() {
        promise = 25;
        WasItOut x = new WasItOut();
        int[][] bad = {{-21, 0}, {21, 0}, {0, -1}, {0, 2}, {LOW, 0}, {HIGH, 0}, {0, LOW}, {0, HIGH}};
        for (int[] b : bad) {
            due("call(" + b[0] + ", " + b[1] + ", true)", x.call(b[0], b[1], true), BAD);
        }
        due("the edges", x.call(-20, 0, true), 1);
        due("the edges", x.call(20, 1, false), 2);
        for (int i = 3; i <= 60; i++) {
            due("call", x.call(0, i % 2, true), i);
        }
        due("the 61st", x.call(0, 0, true), FULL);
        due("BAD is ahead of FULL", x.call(0, 2, true), BAD);
        due("count(3)", x.count(3), 60);
    }

    private static void leans() {
        promise = 26;
        WasItOut x = new WasItOut();
        due("no calls", x.lean(0, 0), 0);
        due("no calls", x.lean(0, 1), 0);
        x.call(0, 0, false);
        due("0 is not more than 0", x.lean(0, 1), 0);
        x.call(0, 1, true);
        due("out by 0 is more than -1", x.lean(1, 0), -1);
        due("all so", x.lean(1, 1), 0);
        x.call(5, 0, false);
        due("5 is not more than 5", x.lean(0, 0), 5);
        x.call(5, 0, true);
        due("one of both is not so; 0 is nearest", x.lean(0, 0), 0);
        due("one is not so", x.lean(0, 1), 1);
        WasItOut y = new WasItOut();
        // one for an L of 1 or more, one for -1 or less: of both the lower
        y.call(1, 0, false);
        y.call(0, 0, true);
        due("by -1 and by 1 one is so, by 0 none", y.lean(0, 0), -1);
        due("one is not", y.lean(0, 1), 1);
        due("the other side is another", y.lean(1, 0), 0);
        WasItOut z = new WasItOut();
        z.call(20, 0, false);
        z.call(-20, 1, true);
        due("the highest", z.lean(0, 0), 20);
        due("none is below -20", z.lean(1, 0), 0);
        due("so it is not so", z.lean(1, 1), 1);
        z.call(-19, 1, true);
        due("the lowest", z.lean(1, 0), -20);
        due("one is not so", z.lean(1, 1), 1);
        int[][] bad = {{-1, 0}, {2, 0}, {0, -1}, {0, 2}, {LOW, 0}, {0, HIGH}};
        for (int[] b : bad) {
            due("lean(" + b[0] + ", " + b[1] + ")", x.lean(b[0], b[1]), -100);
        }
    }

    private static void sorts() {
        promise = 27;
        WasItOut x = new WasItOut();
        int[][] bad = {{-1, 0, 0}, {4, 0, 0}, {0, -1, 0}, {0, 2, 0}, {0, 0, -1}, {0, 0, 11}, {LOW, 0, 0}, {0, HIGH, 0},
            {0, 0, LOW}, {0, 0, HIGH}};
        for (int[] b : bad) {
            due("sort(" + b[0] + ", " + b[1] + ", " + b[2] + ")", x.sort(b[0], b[1], b[2]), BAD);
        }
        for (int i = 0; i < 4; i++) {
            due("p at first", x.sort(i, 0, i), i == 0 ? 10 : 0);
            due("r at first", x.sort(i, 1, 10 - i), 0);
        }
        for (int i = 0; i < 4; i++) {
            due("p", x.sort(i, 0, 10), i);
            due("r", x.sort(i, 1, 0), 10 - i);
        }
    }

    private static void worth() {
        promise = 28;
        WasItOut x = new WasItOut();
        due("r is 0", x.worth(8, 8, 0), 0);
        due("0 is 0 by 1", x.worth(8, 8, 1), 1);
        x.sort(0, 1, 10);
        due("always right", x.worth(8, 1, 0), 8);
        due("always right", x.worth(8, 1, 1), 1);
        due("without an ask", x.worth(8, 0, 0), 0);
        due("without a ball", x.worth(0, 8, 0), 0);
        x.sort(0, 1, 3);
        // right: 1 and 3 tenths more; wrong: nothing more: 3 tenths and 9 hundredths
        due("two balls, an ask", x.worth(2, 1, 0), 39);
        due("two balls, an ask", x.worth(2, 1, 1), 100);
        due("two balls, two asks", x.worth(2, 2, 0), 3);
        due("two balls, two asks", x.worth(2, 2, 1), 5);
        x.sort(0, 0, 5);
        due("tenths are not 10", x.worth(1, 1, 0), NO);
        due("tenths are not 10", x.worth(1, 1, 1), NO);
        due("BAD is ahead of NO", x.worth(9, 0, 0), BAD);
        x.sort(3, 0, 5);
        x.sort(3, 1, 9);
        // a ball and an ask: 3 tenths or 9 tenths: 6 tenths. Two: sort 3: 9 tenths and 54 hundredths;
        // sort 0: to ask is 3 tenths and 18 hundredths, to wait 60: 144 and 60 hundredths by 2
        due("one ball", x.worth(1, 1, 0), 3);
        due("one ball", x.worth(1, 1, 1), 5);
        due("two balls", x.worth(2, 1, 0), 51);
        due("two balls", x.worth(2, 1, 1), 50);
        int[][] bad = {{-1, 0, 0}, {9, 0, 0}, {0, -1, 0}, {0, 9, 0}, {0, 0, -1}, {0, 0, 2}, {LOW, 0, 0}, {0, HIGH, 0},
            {0, 0, HIGH}};
        for (int[] b : bad) {
            due("worth(" + b[0] + ", " + b[1] + ", " + b[2] + ")", x.worth(b[0], b[1], b[2]), BAD);
        }
    }

    private static void when() {
        promise = 29;
        WasItOut x = new WasItOut();
        due("never right", x.when(0, 1, 0), 0);
        x.sort(0, 0, 5);
        x.sort(3, 0, 5);
        x.sort(0, 1, 3);
        x.sort(3, 1, 9);
        due("the last ball", x.when(0, 1, 0), 1);
        due("an ask too dear", x.when(1, 1, 0), 0);
        due("an ask for every ball", x.when(1, 2, 0), 1);
        due("the better sort", x.when(1, 1, 3), 1);
        due("no ask", x.when(7, 0, 3), 0);
        due("a sort that never comes", x.when(0, 1, 1), 0);
        x.sort(1, 1, 1);
        due("a sort that never comes, right at times", x.when(0, 1, 1), 1);
        // a sort that is never right costs an ask; with one ball more to come a second ask is worth nothing
        x.sort(2, 1, 0);
        due("both alike", x.when(1, 2, 2), 0);
        x.sort(3, 0, 4);
        due("tenths are not 10", x.when(0, 0, 0), NO);
        int[][] bad = {{-1, 0, 0}, {8, 0, 0}, {0, -1, 0}, {0, 9, 0}, {0, 0, -1}, {0, 0, 4}, {LOW, 0, 0}, {0, HIGH, 0},
            {0, 0, LOW}};
        for (int[] b : bad) {
            due("when(" + b[0] + ", " + b[1] + ", " + b[2] + ")", x.when(b[0], b[1], b[2]), BAD);
        }
    }

    private static void cases() {
        promise = 30;
        WasItOut x = new WasItOut();
        for (int v : new int[] {-1, 101, LOW, HIGH}) {
            due("truly(" + v + ", true)", x.truly(v, true), BAD);
        }
        due("the edges", x.truly(0, true), 1);
        due("the edges", x.truly(100, false), 2);
        for (int i = 3; i <= 30; i++) {
            due("truly", x.truly(i, i > 9), i);
        }
        due("the 31st", x.truly(0, true), FULL);
        due("BAD is ahead of FULL", x.truly(101, true), BAD);
        due("count(4)", x.count(4), 30);
    }

    private static void sure() {
        promise = 31;
        WasItOut x = new WasItOut();
        due("no cases", x.bestSure(0), 51);
        due("no cases", x.bestSure(1), 0);
        due("no cases", x.bestSure(2), 0);
        x.truly(60, false);
        due("one below is told no more", x.bestSure(0), 61);
        due("none wrong", x.bestSure(1), 0);
        due("one can't be told", x.bestSure(2), 1);
        x.truly(30, true);
        due("called in by 70", x.bestSure(0), 71);
        due("two can't be told", x.bestSure(2), 2);
        x.truly(100, false);
        due("one is wrong by each s", x.bestSure(0), 71);
        due("one wrong", x.bestSure(1), 1);
        x.truly(80, true);
        x.truly(20, false);
        due("those stay told", x.bestSure(0), 71);
        due("two can't be told", x.bestSure(2), 2);
        for (int v : new int[] {-1, 3, LOW, HIGH}) {
            due("bestSure(" + v + ")", x.bestSure(v), BAD);
        }
        WasItOut y = new WasItOut();
        y.truly(99, false);
        due("the highest s", y.bestSure(0), 100);
        WasItOut z = new WasItOut();
        z.truly(50, true);
        due("half and half", z.bestSure(0), 51);
        due("half and half can't be told", z.bestSure(2), 1);
        z.truly(51, true);
        z.truly(49, false);
        due("by 51 these are told", z.bestSure(2), 1);
    }

    private static void keeping() {
        promise = 32;
        WasItOut x = new WasItOut();
        due("keep()", x.keep(), 1);
        due("keep()", x.keep(), 2);
        due("keep()", x.keep(), FULL);
        due("count(5)", x.count(5), 2);
        due("nothing else changes", x.fitting(-1), 189);
        x.ball(0, 5);
        due("keep()", x.keep(), FULL);
        x.back();
        due("the last one kept is not that of FULL", x.at(0, 0, 0), 0);
        x.ball(0, 7);
        due("keep()", x.keep(), 2);
        x.ball(0, 8);
        x.back();
        due("it was kept anew", x.at(0, 0, 0), 7);
    }

    private static void goingBack() {
        promise = 33;
        WasItOut x = new WasItOut();
        due("back()", x.back(), NO);
        begin(x, 1, 2, 3, 4, 5, 6);
        x.camera(0, 0, 10);
        x.blur(0, 0, 1, 0);
        x.mark(9, 9, 1000);
        x.leave(6);
        x.keep();
        begin(x, 9, 9, 9, 9, 9, 9);
        x.noSights();
        x.heard(1, 1, 1, 1, 1);
        x.leave(9);
        x.keep();
        begin(x, 8, 8, 8, 8, 8, 8);
        x.noSights();
        x.leave(0);
        x.camera(0, 0, 3);
        put(x, "g7;");
        x.lay();
        x.call(1, 1, true);
        x.truly(1, true);
        x.sort(1, 1, 1);
        due("as kept last", x.back(), 1);
        due("the ball", x.at(94, 0, 5), 9);
        due("the sights", x.count(2), 1);
        due("the sight", x.whose(0) >= 0 ? 1 : 0, 1);
        due("cameras left out", x.leave(9), 9);
        due("as kept first", x.back(), 0);
        for (int i = 0; i < 6; i++) {
            due("the ball", x.at(94, 0, i), i + 1);
        }
        due("the sights", x.count(2), 2);
        due("a blur is first", x.whose(0), BAD);
        due("cameras left out", x.leave(6), 6);
        due("a camera's numbers are not kept", x.camera(0, 0, 3), 3);
        due("so that it sees (3 times 1) by 10", x.fits(94, 0), 0);
        due("nor is the law", x.law(1), 7);
        due("nor the text", x.count(0), 3);
        due("nor calls", x.count(3), 1);
        due("nor cases", x.count(4), 1);
        due("nor sorts", x.sort(1, 1, 1), 1);
        due("back()", x.back(), NO);
    }

    private static void counts() {
        promise = 34;
        WasItOut x = laid("a1;g2;");
        put(x, "q");
        x.mark(0, 0, 0);
        x.mark(0, 0, 0);
        x.mark(0, 0, 0);
        x.call(0, 0, true);
        x.call(0, 1, true);
        x.call(0, 1, true);
        x.call(0, 1, true);
        for (int i = 0; i < 5; i++) {
            x.truly(1, true);
        }
        x.keep();
        int[] due = {7, 2, 3, 4, 5, 1};
        for (int i = 0; i < 6; i++) {
            due("count(" + i + ")", x.count(i), due[i]);
        }
        for (int v : new int[] {-1, 6, LOW, HIGH}) {
            due("count(" + v + ")", x.count(v), BAD);
        }
    }
}
