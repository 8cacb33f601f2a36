/** Sentences on SIGHTS and what follows from them: a part of "Terms", promises 11 to 24. */
final class SightEdges {
    private static final int BAD = Check.BAD, NO = Check.NO, FULL = Check.FULL, NONE = Check.NONE;
    private static final int BAD_CAMERA = -100;
    private static final int PLAIN = 94;

    private final Check check;

    private SightEdges(Check check) {
        this.check = check;
    }

    static void run(Check check) {
        SightEdges e = new SightEdges(check);
        e.sightsAtMost();
        e.blurBounds();
        e.seeing();
        e.cameraNumbers();
        e.blurDoubt();
        e.markDoubt();
        e.heardBounds();
        e.heardLate();
        e.wantTouch();
        e.fittingOnes();
        e.oddsOf();
        e.called();
        e.shownOne();
        e.apartOf();
        e.movedOnes();
        e.whoseIs();
        e.wouldHit();
        e.wouldWithoutWicket();
        e.camera();
        e.blur();
        e.mark();
        e.heard();
        e.noSights();
        e.leave();
        e.fits();
        e.fitting();
        e.odds();
        e.shown();
        e.apart();
        e.moved();
        e.whose();
        e.would();
    }

    /** CURVE 94 TOUCHES in TICK 4 at (80, 24); an m is worth 4 there, an s 10. */
    private static WasItOut touchingAt80() {
        return Make.laid("", 0, 0, 10, 20, 6, 0);
    }

    private static WasItOut withSights(int many) {
        WasItOut x = new WasItOut();
        for (int i = 0; i < many; i++) {
            x.mark(0, 0, 1000);
        }
        return x;
    }

    private void sightsAtMost() {
        check.term("SIGHTS, 30 at most, each of a kind:");
        WasItOut x = new WasItOut();
        check.due("none at first", x.count(2), 0);
        for (int i = 0; i < 30; i++) {
            int number = i % 3 == 0 ? x.blur(0, 0, 0, 0) : i % 3 == 1 ? x.mark(0, 0, 1000) : x.heard(0, 0, 0, 1000, 1);
            check.due("all kinds are numbered together", number, i);
        }
        check.due("blur", x.blur(0, 0, 0, 0), FULL);
        check.due("mark", x.mark(0, 0, 0), FULL);
        check.due("heard", x.heard(0, 0, 0, 0, 1), FULL);
        check.due("count(2)", x.count(2), 30);
        check.due("the first is asked", x.fits(PLAIN, 0), 1);
        check.due("the last is asked", x.fits(PLAIN, 29), 1);
        check.due("there is no 31st", x.fits(PLAIN, 30), BAD);
        WasItOut y = withSights(29);
        check.due("all fit 29", y.fitting(-1), 189);
        y.mark(50, 50, 0);
        check.due("the 30th counts", y.fitting(-1), 0);
    }

    private void blurBounds() {
        check.term("BLUR of CAMERA c (0 to 3), TICK t (0 to 600), n, doubt e (0 to 1000):");
        check.bounds("c of blur", 0, 3, BAD, c -> new WasItOut().blur(c, 0, 0, 0));
        check.bounds("t of blur", 0, 600, BAD, t -> new WasItOut().blur(0, t, 0, 0));
        check.bounds("e of blur", 0, 1000, BAD, e -> new WasItOut().blur(0, 0, 0, e));
        for (int c = 0; c < 4; c++) {
            WasItOut x = Make.laid("g0;", 5, 0, 0, 1);
            x.camera(c, 0, 10);
            x.blur(c, 0, 5, 0);
            x.blur(c, 600, 605, 0);
            x.blur(c, 599, 605, 0);
            check.due("the first TICK of CAMERA " + c, x.fits(PLAIN, 0), 1);
            check.due("the last TICK of CAMERA " + c, x.fits(PLAIN, 1), 1);
            check.due("the last but one of CAMERA " + c, x.fits(PLAIN, 2), 0);
        }
    }

    /** What CAMERA 2 sees by its numbers of x, y, z at first. */
    private void sees(int[] numbers, int[] ball, int due) {
        WasItOut x = Make.laid("", ball);
        for (int i = 0; i < 3; i++) {
            x.camera(2, i, numbers[i]);
        }
        for (int off = -1; off <= 1; off++) {
            x.blur(2, 0, due + off, 0);
            check.due("sees " + (due + off), x.fits(PLAIN, off + 1), off == 0 ? 1 : 0);
        }
    }

    private void seeing() {
        check.term("CAMERA c sees (a x and b y and c z) by 10, cut");
        int[] ones = {1, 1, 1};
        sees(ones, new int[] {9, 0, 0}, 0);
        sees(ones, new int[] {10, 0, 0}, 1);
        sees(ones, new int[] {19, 0, 0}, 1);
        sees(ones, new int[] {-9, 0, 0}, 0);
        sees(ones, new int[] {-10, 0, 0}, -1);
        sees(ones, new int[] {-19, 0, 0}, -1);
        sees(ones, new int[] {4, 4, 2}, 1);
        sees(ones, new int[] {4, 4, 1}, 0);
        sees(new int[] {1, 2, -3}, new int[] {19, -7, 8}, -1);
        sees(new int[] {10, 10, 10}, new int[] {100000, 100000, 100000}, 300000);
        sees(new int[] {10, 10, -10}, new int[] {-100000, -100000, 100000}, -300000);
        sees(new int[] {-10, 0, 0}, new int[] {-7, 99, 99}, 7);
        sees(new int[] {0, 10, 0}, new int[] {99, -7, 99}, -7);
        sees(new int[] {0, 0, 10}, new int[] {99, 99, 7}, 7);
    }

    private void cameraNumbers() {
        check.term("(numbers of it -10 to 10; 0 at first):");
        for (int c = 0; c < 4; c++) {
            for (int what = 0; what < 3; what++) {
                int of = c;
                int which = what;
                check.due("at first", new WasItOut().camera(c, what, 1), 0);
                check.bounds("camera(" + c + ", " + what + ", ..)", -10, 10, BAD_CAMERA,
                    v -> new WasItOut().camera(of, which, v));
            }
        }
        WasItOut x = Make.laid("", 100000, 100000, 100000);
        x.blur(3, 0, 0, 0);
        check.due("at first it sees 0", x.fits(PLAIN, 0), 1);
        x.camera(3, 2, 10);
        check.due("then it sees z", x.fits(PLAIN, 0), 0);
        x.camera(3, 1, -10);
        check.due("then z less y", x.fits(PLAIN, 0), 1);
        x.camera(3, 0, 11);
        check.due("a refused number is not seen", x.fits(PLAIN, 0), 1);
    }

    private void blurDoubt() {
        check.term("it FITS, if that is off n by e at most.");
        WasItOut x = Make.laid("", 500);
        x.camera(1, 0, 10);
        int[][] rows = {{500, 0, 1}, {499, 0, 0}, {501, 0, 0}, {495, 5, 1}, {505, 5, 1}, {494, 5, 0}, {506, 5, 0},
            {-500, 1000, 1}, {1500, 1000, 1}, {-501, 1000, 0}, {1501, 1000, 0}, {1000000, 1000, 0}, {-1000000, 1000, 0}};
        for (int i = 0; i < rows.length; i++) {
            x.blur(1, 0, rows[i][0], rows[i][1]);
            check.due("n " + rows[i][0] + ", e " + rows[i][1], x.fits(PLAIN, i), rows[i][2]);
        }
    }

    private void markDoubt() {
        check.term("MARK at (x, y) by e: FITS, if it TOUCHES off by e at most each way.");
        WasItOut x = touchingAt80();
        int[][] rows = {{80, 24, 0, 1}, {79, 24, 0, 0}, {81, 24, 0, 0}, {80, 23, 0, 0}, {80, 25, 0, 0}, {77, 27, 3, 1},
            {83, 21, 3, 1}, {76, 24, 3, 0}, {84, 24, 3, 0}, {80, 20, 3, 0}, {80, 28, 3, 0}, {1080, 1024, 1000, 1},
            {-920, -976, 1000, 1}, {1081, 24, 1000, 0}, {-921, 24, 1000, 0}, {80, 1025, 1000, 0}, {80, -977, 1000, 0},
            {100000, 24, 1000, 0}, {80, -100000, 1000, 0}};
        for (int i = 0; i < rows.length; i++) {
            x.mark(rows[i][0], rows[i][1], rows[i][2]);
            check.due("mark at " + rows[i][0] + ", " + rows[i][1] + " by " + rows[i][2], x.fits(PLAIN, i), rows[i][3]);
        }
        WasItOut far = Make.laid("g0;", 100000, -100000, 0, 0, 0, -1);
        far.mark(100000, -100000, 0);
        check.due("the farthest place", far.fits(PLAIN, 0), 1);
        check.due("and no other CURVE but those that end there", far.fitting(-1), 9);
    }

    private void heardBounds() {
        check.term("HEARD at (x, y) in TICK t by e, sound going S (1 to 500) a TICK:");
        check.bounds("x of heard", -100000, 100000, BAD, v -> new WasItOut().heard(v, 0, 0, 0, 1));
        check.bounds("y of heard", -100000, 100000, BAD, v -> new WasItOut().heard(0, v, 0, 0, 1));
        check.bounds("t of heard", 0, 600, BAD, v -> new WasItOut().heard(0, 0, v, 0, 1));
        check.bounds("e of heard", 0, 1000, BAD, v -> new WasItOut().heard(0, 0, 0, v, 1));
        check.bounds("S of heard", 1, 500, BAD, v -> new WasItOut().heard(0, 0, 0, 0, v));
    }

    private void heardLate() {
        check.term("FITS, if it TOUCHES in a TICK which, with HOW FAR (the greater of both differences) by S, rounded up,"
            + " is off t by e at most.");
        WasItOut x = touchingAt80();
        int[][] rows = {{80, 24, 4, 0, 1, 1}, {80, 24, 3, 0, 1, 0}, {80, 24, 5, 0, 1, 0},
            {81, 24, 5, 0, 500, 1}, {580, 24, 5, 0, 500, 1}, {581, 24, 5, 0, 500, 0}, {581, 24, 6, 0, 500, 1},
            {83, 19, 5, 0, 5, 1}, {86, 19, 6, 0, 5, 1}, {74, 29, 6, 0, 5, 1}, {80, 18, 6, 0, 5, 1}, {80, 18, 5, 0, 5, 0},
            {80, 24, 9, 5, 1, 1}, {80, 24, 10, 5, 1, 0}, {90, 24, 9, 5, 1, 1}, {90, 24, 8, 5, 1, 0},
            {676, 24, 600, 0, 1, 1}, {677, 24, 600, 0, 1, 0}, {677, 24, 600, 1, 1, 1},
            {1076, 24, 0, 1000, 1, 1}, {1077, 24, 0, 1000, 1, 0}, {80, 24, 600, 596, 1, 1}, {80, 24, 600, 595, 1, 0},
            {-100000, 24, 600, 1000, 500, 1}, {-100000, 24, 205, 0, 500, 1}, {-100000, 24, 204, 0, 500, 0},
            {100000, -100000, 600, 1000, 1, 0}};
        for (int i = 0; i < rows.length; i++) {
            int[] r = rows[i];
            check.due("heard", x.heard(r[0], r[1], r[2], r[3], r[4]), i);
            check.due("heard at " + r[0] + ", " + r[1] + " in " + r[2] + " by " + r[3] + ", S " + r[4],
                x.fits(PLAIN, i), r[5]);
        }
    }

    private void wantTouch() {
        check.term("(MARKS and HEARD ones want a TOUCH.)");
        WasItOut x = Make.laid("g0;");
        x.mark(0, 0, 1000);
        x.heard(0, 0, 0, 1000, 500);
        x.blur(0, 0, 0, 0);
        check.due("a MARK", x.fits(PLAIN, 0), 0);
        check.due("HEARD", x.fits(PLAIN, 1), 0);
        check.due("a BLUR doesn't", x.fits(PLAIN, 2), 1);
        x.ball(5, -1);
        check.due("with a TOUCH: a MARK", x.fits(PLAIN, 0), 1);
        check.due("with a TOUCH: HEARD", x.fits(PLAIN, 1), 1);
        x.ball(2, 600);
        check.due("in TICK 600", x.fits(PLAIN, 0), 1);
        x.ball(2, 601);
        check.due("too late", x.fits(PLAIN, 0), 0);
    }

    private void fittingOnes() {
        check.term("FITTING are CURVES that FIT all SIGHTS (BLURS of CAMERAS left out are not asked).");
        WasItOut x = Make.seeingY("");
        check.due("without SIGHTS all", x.fitting(-1), 189);
        x.blur(0, 1, 14, 0);
        check.due("one", x.fitting(-1), 1);
        check.due("it is the last", x.fitting(0), 188);
        x.blur(0, 1, 13, 0);
        check.due("none fits both", x.fitting(-1), 0);
        x.leave(14);
        check.due("others are left out", x.fitting(-1), 0);
        x.leave(1);
        check.due("left out", x.fitting(-1), 189);
        x.mark(0, 14, 0);
        check.due("a MARK is asked nonetheless", x.fitting(-1), 1);
        x.leave(15);
        check.due("a MARK is asked nonetheless", x.fitting(-1), 1);
        x.heard(0, 0, 0, 0, 1);
        check.due("HEARD, too", x.fitting(-1), 0);
    }

    private void oddsOf() {
        check.term("ODDS: how many of these are OUT, IN (TOUCH, not OUT).");
        // of y = m and s there are 1, 2, 3, 4, 5, 6, 7, 8 CURVES for 14, 13 .. 7, then 9 down to -6
        for (int line = 6; line <= 14; line++) {
            WasItOut x = Make.laid("l0," + line + ";");
            int out = (14 - line) * (15 - line) / 2;
            check.due("OUT by a line at " + line, x.odds(0), out);
            check.due("IN by a line at " + line, x.odds(1), 189 - out);
        }
        check.due("all are OUT", Make.laid("l0,-15;").odds(0), 189);
        check.due("none is IN", Make.laid("l0,-15;").odds(1), 0);
        WasItOut y = Make.seeingY("l0,13;");
        y.blur(0, 1, 14, 1);
        check.due("OUT of three", y.odds(0), 1);
        check.due("IN of three", y.odds(1), 2);
        WasItOut none = Make.laid("g0;");
        check.due("without a TOUCH", none.odds(0), 0);
        check.due("without a TOUCH", none.odds(1), 0);
        oddsAnew();
    }

    /** What was asked before is not what is asked now. */
    private void oddsAnew() {
        WasItOut x = Make.laid("l0,13;");
        check.due("OUT", x.odds(0), 1);
        x.ball(1, 1);
        check.due("OUT, the ball one more aside", x.odds(0), 3);
        x.keep();
        x.ball(1, -1);
        check.due("OUT, the ball one less aside", x.odds(0), 0);
        x.back();
        check.due("OUT, as it was kept", x.odds(0), 3);
        Make.lay(x, "l0,12;");
        check.due("OUT, another line", x.odds(0), 6);
        Make.lay(x, "l0,12;g0;");
        check.due("OUT, no TOUCH", x.odds(0), 0);
        check.due("IN, no TOUCH", x.odds(1), 0);
    }

    /** CALLED of the CURVES whose y is off that place by e at most, by a line and a SURE. */
    private static int calledOf(int y, int e, int line, int sure) {
        WasItOut x = Make.seeingY("l0," + line + ";t" + sure + ";");
        x.blur(0, 1, y, e);
        return x.odds(2);
    }

    private void called() {
        check.term("CALLED: 2 out, if 100 times those OUT are SURE times FITTING ones or more; 0 in, likewise by IN;"
            + " 1 can't be told; none, without FITTING ones.");
        // of y -14, -13, -12, -11, -10 there are 1, 2, 3, 4, 5 CURVES, of 10, 11, 12, 13, 14 5, 4, 3, 2, 1
        check.due("9 of 15, 60", calledOf(-12, 2, -12, 60), 2);
        check.due("9 of 15, 61", calledOf(-12, 2, -12, 61), 1);
        check.due("12 of 15, 80", calledOf(-12, 2, -13, 80), 2);
        check.due("12 of 15, 81", calledOf(-12, 2, -13, 81), 1);
        check.due("12 of 15 IN, 80", calledOf(12, 2, 12, 80), 0);
        check.due("12 of 15 IN, 81", calledOf(12, 2, 12, 81), 1);
        check.due("9 of 15 IN, 60", calledOf(12, 2, 11, 60), 0);
        check.due("9 of 15 IN, 61", calledOf(12, 2, 11, 61), 1);
        check.due("2 of 3 OUT, 66", calledOf(-14, 1, -14, 66), 2);
        check.due("2 of 3 OUT, 67", calledOf(-14, 1, -14, 67), 1);
        check.due("half and half, 51", calledOf(-13, 1, -13, 51), 1);
        check.due("all OUT, 100", calledOf(-12, 2, -15, 100), 2);
        check.due("all IN, 100", calledOf(12, 2, 14, 100), 0);
        check.due("all but one IN, 100", calledOf(12, 2, 13, 100), 1);
        check.due("one CURVE OUT, 100", calledOf(14, 0, 13, 100), 2);
        check.due("one CURVE IN, 100", calledOf(14, 0, 14, 100), 0);
        check.due("none fits", calledOf(15, 0, 0, 51), NONE);
        // nine tenths of 189 are 170.1
        check.due("174 of 189, 90 without", Make.laid("l0,-10;").odds(2), 2);
        check.due("168 of 189, 90 without", Make.laid("l0,-9;").odds(2), 1);
        check.due("174 of 189 IN, 90 without", Make.laid("l0,9;").odds(2), 0);
        check.due("168 of 189 IN, 90 without", Make.laid("l0,8;").odds(2), 1);
        check.due("168 of 189, 88", Make.laid("l0,-9;t88;").odds(2), 2);
        check.due("168 of 189, 89", Make.laid("l0,-9;t89;").odds(2), 1);
        check.due("168 of 189 IN, 88", Make.laid("l0,8;t88;").odds(2), 0);
        check.due("168 of 189 IN, 89", Make.laid("l0,8;t89;").odds(2), 1);
        check.due("without a TOUCH", Make.laid("g0;t51;").odds(2), 1);
    }

    private void shownOne() {
        check.term("SHOWN: of all CURVES that with the least sum over BLURS (of CAMERAS not left out) of how far each is"
            + " off; the lowest of several.");
        WasItOut x = Make.seeingY("");
        check.due("without BLURS the lowest", x.shown(0), 0);
        check.due("without BLURS nothing", x.shown(1), 0);
        x.blur(0, 1, 0, 0);
        check.due("the lowest of nine", x.shown(0), Make.curve(-4, 4));
        x.blur(0, 1, 20, 0);
        // 0 to 14 are as near to both, the lowest of all these is that of 0
        check.due("the lowest of many", x.shown(0), Make.curve(-4, 4));
        check.due("20 for all of these", x.shown(1), 20);
        x.blur(0, 1, 20, 0);
        check.due("two to one", x.shown(0), 188);
        check.due("6 and 6 and 14", x.shown(1), 26);
        x.blur(1, 0, 7, 0);
        check.due("another CAMERA", x.shown(1), 33);
        x.leave(2);
        check.due("left out", x.shown(1), 26);
        x.leave(1);
        check.due("the other left out", x.shown(1), 7);
        check.due("the lowest of all", x.shown(0), 0);
        x.leave(15);
        check.due("all left out", x.shown(1), 0);
        x.leave(0);
        x.mark(50, 50, 0);
        x.heard(50, 50, 0, 0, 1);
        check.due("MARKS and HEARD ones are not of it", x.shown(1), 33);
        check.due("the doubt is not of it", offByDoubt(), 1000000);
        // y of CURVE 0 is the lowest: 100000 and 600 times 1990, less 4 times 180300
        WasItOut far = Make.laid("g0;", 100000, 100000, 100000, 2000, 2000, 2000);
        for (int i = 0; i < 3; i++) {
            far.camera(3, i, 10);
        }
        for (int i = 0; i < 30; i++) {
            far.blur(3, 600, -1000000, 0);
        }
        check.due("the greatest sum", far.shown(1), 30 * (1300000 + 572800 + 1300000 + 1000000));
        check.due("its CURVE", far.shown(0), 0);
        shownEach();
    }

    /** y in TICKS 1 and 2 tells one CURVE alone. */
    private void shownEach() {
        for (int curve = 0; curve < 189; curve++) {
            int m = curve / 9 - 10;
            int s = curve % 9 - 4;
            WasItOut x = Make.seeingY("");
            x.ball(1, 40);
            x.blur(0, 1, 40 + m + s, 0);
            x.blur(0, 2, 40 + 2 * m + 3 * s, 0);
            check.due("the only one that is not off", x.shown(0), curve);
            check.due("and its sum", x.shown(1), 0);
            check.due("it FITS", x.fitting(0), curve);
            check.due("and no other", x.fitting(1), NONE);
        }
    }

    private static int offByDoubt() {
        WasItOut x = new WasItOut();
        x.blur(0, 0, -1000000, 1000);
        return x.shown(1);
    }

    private void apartOf() {
        check.term("APART of two CURVES: the greater difference of TOUCHES' x, y.");
        WasItOut x = touchingAt80();
        check.due("of one and itself", x.apart(0, 0), 0);
        check.due("an s", x.apart(PLAIN, PLAIN + 1), 10);
        check.due("an m", x.apart(PLAIN, PLAIN + 9), 4);
        check.due("the other way round", x.apart(PLAIN + 9, PLAIN), 4);
        check.due("the first and the last", x.apart(0, 188), 160);
        check.due("the last and the first", x.apart(188, 0), 160);
        WasItOut far = Make.laid("g0;", 0, 0, 600, 0, 0, -1);
        check.due("in the last TICK", far.apart(0, 188), 20 * 600 + 8 * 180300);
    }

    private void movedOnes() {
        check.term("MOVED: the fewest CAMERAS to leave out (besides those left out) so that some CURVE FITS; of several the"
            + " least bits; none.");
        check.due("without SIGHTS none of them", new WasItOut().moved(), 0);
        WasItOut one = Make.seeingY("");
        one.blur(0, 1, 14, 0);
        check.due("one CURVE is enough", one.moved(), 0);
        one.blur(0, 1, 15, 0);
        check.due("none is not", one.moved(), 1);
        for (int wrongOnes = 0; wrongOnes < 16; wrongOnes++) {
            WasItOut x = new WasItOut();
            for (int c = 0; c < 4; c++) {
                x.blur(c, 0, 5, (wrongOnes >> c & 1) == 0 ? 5 : 4);
            }
            check.due("those that are wrong", x.moved(), wrongOnes);
            for (int out = 0; out < 16; out++) {
                x.leave(out);
                check.due("besides " + out, x.moved(), wrongOnes & ~out);
            }
        }
        WasItOut y = new WasItOut();
        for (int c = 0; c < 4; c++) {
            y.camera(c, 1, 10);
            y.blur(c, 1, c, 0);
        }
        check.due("each sees another y: the least three bits", y.moved(), 7);
        y.blur(0, 1, 9, 0);
        check.due("one sees two: that and two more", y.moved(), 7);
        y.leave(1);
        check.due("two besides", y.moved(), 6);
        y.leave(3);
        check.due("one besides", y.moved(), 4);
        y.leave(7);
        check.due("none besides", y.moved(), 0);
        y.leave(8);
        check.due("the other three are two too many", y.moved(), 3);
        y.mark(0, 15, 0);
        check.due("no CURVE fits the MARK", y.moved(), NONE);
        y.leave(15);
        check.due("all are left out", y.moved(), NONE);
        WasItOut pairs = new WasItOut();
        for (int c = 0; c < 4; c++) {
            pairs.camera(c, 1, 10);
            pairs.blur(c, 1, c < 2 ? 3 : 4, 0);
        }
        check.due("of two pairs the least bits", pairs.moved(), 3);
        pairs.mark(0, 3, 0);
        check.due("the MARK is for the other pair", pairs.moved(), 12);
    }

    private void whoseIs() {
        check.term("WHOSE: a SIGHT that is a MARK or HEARD is SURE (2), if all CURVES that FIT all BLURS FIT it (there is"
            + " one), MAY BE (1), if one does, else 0.");
        WasItOut x = Make.seeingY("");
        x.mark(0, 0, 14);
        x.mark(0, 0, 13);
        x.mark(0, 14, 0);
        x.mark(0, 15, 0);
        x.heard(0, 0, 1, 14, 1);
        x.heard(0, 0, 1, 13, 1);
        int[] without = {2, 1, 1, 0, 2, 1};
        for (int i = 0; i < 6; i++) {
            check.due("without BLURS, SIGHT " + i, x.whose(i), without[i]);
        }
        x.blur(0, 1, 14, 0);
        int[] one = {2, 0, 2, 0, 2, 0};
        for (int i = 0; i < 6; i++) {
            check.due("one CURVE, SIGHT " + i, x.whose(i), one[i]);
        }
        x.blur(1, 0, 1, 0);
        for (int i = 0; i < 6; i++) {
            check.due("no CURVE fits the BLURS, SIGHT " + i, x.whose(i), 0);
        }
        x.leave(2);
        for (int i = 0; i < 6; i++) {
            check.due("that BLUR is left out, SIGHT " + i, x.whose(i), one[i]);
        }
        x.leave(3);
        for (int i = 0; i < 6; i++) {
            check.due("both are left out, SIGHT " + i, x.whose(i), without[i]);
        }
        WasItOut none = Make.laid("g0;");
        none.mark(0, 0, 1000);
        check.due("without a TOUCH", none.whose(0), 0);
    }

    /** In TICK 1 at x 20, z 9, y m and s; in TICK 2 at x 40, z 7, y 2 m and 3 s. */
    private static int hits(int w, int y, int h) {
        return Make.laid("k" + w + "," + y + "," + h + ";", 0, 0, 10, 20, 0, 0).would(0);
    }

    private void wouldHit() {
        check.term("WOULD: FITTING CURVES that, gone on by law, begin with x below W, and in the first TICK with x at W or"
            + " more have y off 0 by Y at most and z H at most; of how many FITTING ones.");
        check.due("begins one below W", hits(1, 14, 9), 189);
        check.due("begins at W", hits(0, 9999, 9999), 0);
        check.due("begins above W", hits(-1, 9999, 9999), 0);
        check.due("x at W", hits(20, 14, 9), 189);
        check.due("x more than W", hits(19, 14, 9), 189);
        check.due("not before W", hits(21, 14, 9), 189 - tooFarAside());
        check.due("y off by Y at most", hits(20, 13, 9), 187);
        check.due("y off by Y at most", hits(20, 0, 9), 9);
        check.due("z at H", hits(20, 9999, 9), 189);
        check.due("z above H", hits(20, 9999, 8), 0);
        check.due("the first TICK alone", hits(20, 9999, 7), 0);
        check.due("the second is the first at W", hits(21, 9999, 7), 189);
        check.due("behind the bounce", hits(100, 9999, 1), 189);
        check.due("behind the bounce, too high", hits(100, 9999, 0), 0);
        check.due("by the bounce", hits(80, 9999, 0), 189);
        WasItOut low = Make.laid("k-9999,14,0;g0;", -10000, 0, 0, 1);
        check.due("the lowest W", low.would(0), 189);
        low.ball(0, -9999);
        check.due("the lowest W, begins there", low.would(0), 0);
        // in TICK 600 y is 600 m and 180300 s: an s is too much
        WasItOut last = Make.laid("k600,9999,0;g0;", 0, 0, 0, 1);
        check.due("in the last TICK", last.would(0), 21);
        last.ball(0, -1);
        check.due("it would be later", last.would(0), 0);
        check.due("of all nonetheless", last.would(1), 189);
        WasItOut back = Make.laid("k5,9999,9999;g0;", 0, 0, 0, -9);
        check.due("it goes the other way", back.would(0), 0);
        WasItOut fit = Make.seeingY("k20,1,9;");
        Make.ball(fit, 0, 0, 10, 20);
        fit.blur(0, 1, 1, 1);
        check.due("FITTING ones that do", fit.would(0), 18);
        check.due("of how many", fit.would(1), 27);
        fit.blur(0, 1, 5, 0);
        check.due("none fits", fit.would(0), 0);
        check.due("of none", fit.would(1), 0);
    }

    /** CURVES with 2 m and 3 s off 0 by more than 14. */
    private static int tooFarAside() {
        int many = 0;
        for (int m = -10; m <= 10; m++) {
            for (int s = -4; s <= 4; s++) {
                many += Math.abs(2 * m + 3 * s) > 14 ? 1 : 0;
            }
        }
        return many;
    }

    private void wouldWithoutWicket() {
        check.term("(NO: no WICKET.)");
        check.due("at first", new WasItOut().would(0), NO);
        check.due("at first", new WasItOut().would(1), NO);
        WasItOut x = Make.written("k1,1,1;");
        check.due("written, not laid", x.would(0), NO);
        x.lay();
        check.due("laid", x.would(0), 0);
        x.wipe();
        check.due("wiped, laid still", x.would(1), 189);
        x.lay();
        check.due("no more", x.would(1), NO);
    }

    private void camera() {
        check.promise(11, "A number of a CAMERA (what 0 to 2): what it was. BAD answers -100.");
        WasItOut x = new WasItOut();
        for (int i = 0; i < 12; i++) {
            check.due("at first", x.camera(i / 3, i % 3, i - 5), 0);
        }
        for (int i = 0; i < 12; i++) {
            check.due("each for itself", x.camera(i / 3, i % 3, -10), i - 5);
            check.due("the lowest", x.camera(i / 3, i % 3, 10), -10);
            check.due("too high", x.camera(i / 3, i % 3, 11), BAD_CAMERA);
            check.due("too low", x.camera(i / 3, i % 3, -11), BAD_CAMERA);
            check.due("the highest, as it was", x.camera(i / 3, i % 3, 0), 10);
        }
        check.bounds("camera(.., 0, 0)", 0, 3, BAD_CAMERA, c -> new WasItOut().camera(c, 0, 0));
        check.bounds("camera(0, .., 0)", 0, 2, BAD_CAMERA, what -> new WasItOut().camera(0, what, 0));
        check.bounds("camera(0, 0, ..)", -10, 10, BAD_CAMERA, v -> new WasItOut().camera(0, 0, v));
        check.due("none is told", x.camera(4, 3, 11), BAD_CAMERA);
    }

    private void blur() {
        check.promise(12, "A BLUR: the SIGHT's number. BAD (n -1000000 to 1000000); FULL: 30.");
        check.due("the first", new WasItOut().blur(0, 0, 0, 0), 0);
        check.due("the 30th", withSights(29).blur(0, 0, 0, 0), 29);
        check.due("the 31st", withSights(30).blur(0, 0, 0, 0), FULL);
        check.bounds("n of blur", -1000000, 1000000, BAD, n -> new WasItOut().blur(0, 0, n, 0));
        check.bounds("n of the 30th blur", -1000000, 1000000, BAD, n -> withSights(29).blur(0, 0, n, 0));
        int[][] bad = {{-1, 0, 0, 0}, {4, 0, 0, 0}, {0, -1, 0, 0}, {0, 601, 0, 0}, {0, 0, -1000001, 0}, {0, 0, 1000001, 0},
            {0, 0, 0, -1}, {0, 0, 0, 1001}};
        for (int[] b : bad) {
            check.due("of both the first", withSights(30).blur(b[0], b[1], b[2], b[3]), BAD);
        }
        WasItOut x = withSights(3);
        x.blur(4, 0, 0, 0);
        check.due("BAD takes no number", x.blur(0, 0, 0, 0), 3);
    }

    private void mark() {
        check.promise(13, "A MARK. BAD (x, y -100000 to 100000); FULL.");
        check.due("the first", new WasItOut().mark(0, 0, 0), 0);
        check.due("the 30th", withSights(29).mark(0, 0, 0), 29);
        check.due("the 31st", withSights(30).mark(0, 0, 0), FULL);
        check.bounds("x of mark", -100000, 100000, BAD, v -> new WasItOut().mark(v, 0, 0));
        check.bounds("y of mark", -100000, 100000, BAD, v -> new WasItOut().mark(0, v, 0));
        check.bounds("e of mark", 0, 1000, BAD, v -> new WasItOut().mark(0, 0, v));
        int[][] bad = {{-100001, 0, 0}, {100001, 0, 0}, {0, -100001, 0}, {0, 100001, 0}, {0, 0, -1}, {0, 0, 1001}};
        for (int[] b : bad) {
            check.due("of both the first", withSights(30).mark(b[0], b[1], b[2]), BAD);
        }
        WasItOut x = withSights(3);
        x.mark(0, 0, 1001);
        check.due("BAD takes no number", x.mark(0, 0, 0), 3);
    }

    private void heard() {
        check.promise(14, "HEARD. BAD; FULL.");
        check.due("the first", new WasItOut().heard(0, 0, 0, 0, 1), 0);
        check.due("the 30th", withSights(29).heard(0, 0, 0, 0, 1), 29);
        check.due("the 31st", withSights(30).heard(0, 0, 0, 0, 1), FULL);
        int[][] bad = {{-100001, 0, 0, 0, 1}, {100001, 0, 0, 0, 1}, {0, -100001, 0, 0, 1}, {0, 100001, 0, 0, 1},
            {0, 0, -1, 0, 1}, {0, 0, 601, 0, 1}, {0, 0, 0, -1, 1}, {0, 0, 0, 1001, 1}, {0, 0, 0, 0, 0}, {0, 0, 0, 0, 501},
            {0, 0, 0, 0, -1}};
        for (int[] b : bad) {
            check.due("BAD", new WasItOut().heard(b[0], b[1], b[2], b[3], b[4]), BAD);
            check.due("of both the first", withSights(30).heard(b[0], b[1], b[2], b[3], b[4]), BAD);
        }
        WasItOut x = withSights(3);
        x.heard(0, 0, 0, 0, 0);
        check.due("BAD takes no number", x.heard(0, 0, 0, 0, 1), 3);
    }

    private void noSights() {
        check.promise(15, "No SIGHTS: how many were.");
        for (int many : new int[] {0, 1, 29, 30}) {
            WasItOut x = withSights(many);
            check.due("noSights()", x.noSights(), many);
            check.due("none are", x.count(2), 0);
            check.due("none were", x.noSights(), 0);
            check.due("none is asked", x.fits(0, 0), BAD);
            check.due("numbered from 0 again", x.mark(9, 9, 9), 0);
        }
        WasItOut full = withSights(30);
        full.noSights();
        for (int i = 0; i < 30; i++) {
            check.due("thirty again", full.blur(0, 0, 0, 0), i);
        }
        check.due("and no more", full.blur(0, 0, 0, 0), FULL);
    }

    private void leave() {
        check.promise(16, "CAMERAS left out (0 to 15): what it was. BAD.");
        check.due("none at first", new WasItOut().leave(0), 0);
        check.bounds("leave", 0, 15, BAD, v -> new WasItOut().leave(v));
        WasItOut x = new WasItOut();
        for (int v = 0; v < 16; v++) {
            check.due("what it was", x.leave(v), Math.max(0, v - 1));
            check.due("too much", x.leave(16), BAD);
            check.due("too little", x.leave(-1), BAD);
        }
        for (int c = 0; c < 4; c++) {
            WasItOut y = new WasItOut();
            y.blur(c, 0, 1, 0);
            for (int v = 0; v < 16; v++) {
                y.leave(v);
                check.due("CAMERA " + c + " by " + v, y.fitting(-1), (v >> c & 1) == 1 ? 189 : 0);
            }
        }
    }

    private void fits() {
        check.promise(17, "1: a CURVE FITS SIGHT i (its CAMERA left out or not), i = -1: it is FITTING; 0. BAD.");
        WasItOut x = Make.seeingY("");
        x.blur(0, 1, 14, 0);
        check.due("it fits", x.fits(188, 0), 1);
        check.due("it doesn't", x.fits(187, 0), 0);
        check.due("it is FITTING", x.fits(188, -1), 1);
        check.due("it isn't", x.fits(0, -1), 0);
        x.leave(1);
        check.due("left out, it fits", x.fits(188, 0), 1);
        check.due("left out, it doesn't", x.fits(187, 0), 0);
        check.due("left out, it is FITTING", x.fits(0, -1), 1);
        check.due("without SIGHTS", new WasItOut().fits(188, -1), 1);
        check.due("without SIGHTS", new WasItOut().fits(0, 0), BAD);
        check.bounds("fits(.., -1)", 0, 188, BAD, curve -> new WasItOut().fits(curve, -1));
        for (int many : new int[] {1, 29, 30}) {
            check.bounds("fits(0, ..) of " + many, -1, many - 1, BAD, i -> withSights(many).fits(0, i));
        }
        check.due("neither is told", x.fits(189, 1), BAD);
    }

    private void fitting() {
        check.promise(18, "FITTING: how many (i = -1), the i-th CURVE. NONE; BAD.");
        WasItOut x = Make.seeingY("");
        check.due("how many", x.fitting(-1), 189);
        for (int i = 0; i < 189; i++) {
            check.due("the " + i + "th", x.fitting(i), i);
        }
        check.due("the 189th", x.fitting(189), NONE);
        check.due("the farthest", x.fitting(Check.HIGH), NONE);
        check.due("-2", x.fitting(-2), BAD);
        check.due("the lowest", x.fitting(Check.LOW), BAD);
        x.blur(0, 1, 13, 0);
        check.due("how many", x.fitting(-1), 2);
        check.due("the first", x.fitting(0), Make.curve(9, 4));
        check.due("the last", x.fitting(1), Make.curve(10, 3));
        check.due("no more", x.fitting(2), NONE);
        x.mark(0, 50, 0);
        check.due("how many", x.fitting(-1), 0);
        check.due("not even a first", x.fitting(0), NONE);
        check.due("of both the first", x.fitting(-2), BAD);
    }

    private void odds() {
        check.promise(19, "ODDS: OUT (what = 0), IN (1), CALLED (2). NONE; BAD.");
        check.bounds("odds", 0, 2, BAD, what -> new WasItOut().odds(what));
        WasItOut x = Make.laid("l0,-15;");
        check.due("OUT", x.odds(0), 189);
        check.due("IN", x.odds(1), 0);
        check.due("CALLED", x.odds(2), 2);
        x.mark(0, 50, 0);
        check.due("OUT of none", x.odds(0), 0);
        check.due("IN of none", x.odds(1), 0);
        check.due("CALLED of none", x.odds(2), NONE);
        check.due("of both the first", x.odds(3), BAD);
        check.due("of both the first", x.odds(-1), BAD);
    }

    private void shown() {
        check.promise(20, "SHOWN: the CURVE (what = 0), the sum (1). BAD.");
        WasItOut x = Make.seeingY("");
        x.blur(0, 1, 15, 0);
        check.due("the CURVE", x.shown(0), 188);
        check.due("the sum", x.shown(1), 1);
        x.noSights();
        x.blur(0, 1, -15, 0);
        check.due("the CURVE", x.shown(0), 0);
        check.due("the sum", x.shown(1), 1);
        check.bounds("shown", 0, 1, BAD, what -> new WasItOut().shown(what));
        check.bounds("shown", 0, 1, BAD, what -> Make.full().shown(what));
    }

    private void apart() {
        check.promise(21, "APART. NONE: one has no TOUCH; BAD.");
        check.bounds("apart(.., 0)", 0, 188, BAD, a -> touchingAt80().apart(a, 0));
        check.bounds("apart(0, ..)", 0, 188, BAD, b -> touchingAt80().apart(0, b));
        WasItOut none = Make.laid("g0;");
        check.due("no TOUCH", none.apart(0, 188), NONE);
        check.due("no TOUCH", none.apart(5, 5), NONE);
        for (int v : new int[] {-1, 189}) {
            check.due("of both the first", none.apart(v, 0), BAD);
            check.due("of both the first", none.apart(0, v), BAD);
            check.due("neither is told", none.apart(v, v), BAD);
        }
    }

    private void moved() {
        check.promise(22, "MOVED: CAMERAS as bits. NONE.");
        for (int c = 0; c < 4; c++) {
            WasItOut x = new WasItOut();
            x.blur(c, 0, 1, 0);
            check.due("CAMERA " + c, x.moved(), 1 << c);
        }
        check.due("none are to be left out", new WasItOut().moved(), 0);
        WasItOut x = new WasItOut();
        x.mark(50, 50, 0);
        check.due("there is none", x.moved(), NONE);
        x.leave(15);
        check.due("there is none", x.moved(), NONE);
        x.noSights();
        check.due("none are to be left out besides all", x.moved(), 0);
    }

    private void whose() {
        check.promise(23, "WHOSE. BAD (a BLUR, too).");
        check.due("without SIGHTS", new WasItOut().whose(0), BAD);
        for (int many : new int[] {1, 29, 30}) {
            check.bounds("whose of " + many, 0, many - 1, BAD, i -> withSights(many).whose(i));
        }
        WasItOut x = new WasItOut();
        x.blur(0, 0, 0, 0);
        x.mark(0, 0, 1000);
        x.heard(0, 0, 0, 1000, 1);
        check.due("a BLUR", x.whose(0), BAD);
        check.due("a MARK", x.whose(1), 2);
        check.due("HEARD", x.whose(2), 2);
        x.leave(1);
        check.due("a BLUR that is left out", x.whose(0), BAD);
    }

    private void would() {
        check.promise(24, "WOULD: how many (what = 0), of how many (1). BAD; NO.");
        check.due("how many", Make.laid("k20,0,9;", 0, 0, 10, 20).would(0), 9);
        check.due("of how many", Make.laid("k20,0,9;", 0, 0, 10, 20).would(1), 189);
        check.bounds("would", 0, 1, BAD, what -> Make.laid("k20,0,9;").would(what));
        check.bounds("would without", 0, 1, BAD, what -> new WasItOut().would(what));
        check.due("NO", new WasItOut().would(0), NO);
        check.due("of both the first", new WasItOut().would(2), BAD);
        check.due("of both the first", new WasItOut().would(-1), BAD);
    }
}
