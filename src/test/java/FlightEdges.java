/** Sentences on THE BALL, TICKS, CURVES and TOUCHES: a part of "Terms", promises 8 to 10. */
final class FlightEdges {
    private static final int BAD_BALL = -1000000;
    private static final int BAD_PLACE = -2000000000;
    private static final int NO_TOUCH = -2000000004;
    private static final int[] LOWEST = {-100000, -100000, 0, -2000, -2000, -2000};
    private static final int[] HIGHEST = {100000, 100000, 100000, 2000, 2000, 2000};
    /** The CURVE of no m and no s. */
    private static final int PLAIN = 94;

    private final Check check;

    private FlightEdges(Check check) {
        this.check = check;
    }

    static void run(Check check) {
        FlightEdges e = new FlightEdges(check);
        e.ballBounds();
        e.callsOfAnObject();
        e.air();
        e.spinAndWeight();
        e.growing();
        e.touching();
        e.half();
        e.bouncing();
        e.gripping();
        e.farAway();
        e.ballAtFirst();
        e.curves();
        e.firstTouch();
        e.out();
        e.ball();
        e.ballRefused();
        e.at();
        e.atRefused();
        e.touch();
        e.touchRefused();
    }

    private void ballBounds() {
        check.start("A BALL is at (x, y, z) with (u, v, w) a TICK: all whole (x, y -100000 to 100000, z 0 to 100000;"
            + " u, v, w -2000 to 2000).");
        for (int i = 0; i < 6; i++) {
            int what = i;
            check.bounds("ball(" + what + ", ..)", LOWEST[i], HIGHEST[i], BAD_BALL, v -> new WasItOut().ball(what, v));
            for (int v : new int[] {LOWEST[i], HIGHEST[i]}) {
                WasItOut x = new WasItOut();
                x.ball(i, v);
                check.due("at(94, 0, " + i + ")", x.at(PLAIN, 0, i), v);
            }
        }
    }

    private void callsOfAnObject() {
        check.start("An object is used for at most 512 calls after it has been made; what later calls answer is free.");
        WasItOut x = new WasItOut();
        for (int i = 1; i < 512; i++) {
            check.due("call " + i, x.ball(i % 2, i), Math.max(0, i - 2));
        }
        check.due("the 512th", x.ball(0, 5), 510);
    }

    private void air() {
        check.term("A TICK: u, v, w become less by (each times AIR) by 1000, cut;");
        // AIR, how fast, how fast a TICK later
        int[][] rows = {{0, 2000, 2000}, {0, -2000, -2000}, {1, 999, 999}, {1, 1000, 999}, {1, -999, -999}, {1, -1000, -999},
            {1, 1999, 1998}, {1, 2000, 1998}, {500, 2000, 1000}, {500, -2000, -1000}, {500, 1, 1}, {500, -1, -1}, {500, 2, 1},
            {500, -2, -1}, {500, 3, 2}, {500, -3, -2}, {500, 0, 0}, {333, 3, 3}, {334, 3, 2}, {499, -2, -2}};
        for (int[] r : rows) {
            WasItOut x = Make.laid("a" + r[0] + ";g0;", 0, 0, 100000, r[1], r[1], r[1]);
            for (int what = 3; what < 6; what++) {
                check.due(r[1] + " by AIR " + r[0], x.at(PLAIN, 1, what), r[2]);
            }
        }
    }

    private void spinAndWeight() {
        check.term("then v is SPIN more, w WEIGHT less;");
        // 1000 less 500 by AIR first, then SPIN and WEIGHT
        WasItOut x = Make.laid("a500;g100;", 0, 0, 100000, 1000, 1000, 1000);
        check.due("SPIN 4", x.at(PLAIN + 4, 1, 4), 504);
        check.due("SPIN -4", x.at(PLAIN - 4, 1, 4), 496);
        check.due("SPIN 0", x.at(PLAIN, 1, 4), 500);
        check.due("WEIGHT 100", x.at(PLAIN, 1, 5), 400);
        check.due("u has neither", x.at(PLAIN + 4, 1, 3), 500);
        check.due("WEIGHT 0", Make.laid("g0;", 0, 0, 5, 0, 0, 7).at(PLAIN, 600, 5), 7);
        check.due("WEIGHT 1 without", Make.laid("", 0, 0, 5, 0, 0, 7).at(PLAIN, 1, 5), 6);
        check.due("in each TICK", x.at(PLAIN + 4, 2, 4), 504 - 252 + 4);
    }

    private void growing() {
        check.term("then x, y, z grow by u, v, w.");
        WasItOut x = Make.laid("a500;g100;", 10, 20, 30, 1000, 2000, 1600);
        int[] one = {510, 1020, 730, 500, 1000, 700};
        int[] two = {760, 1520, 980, 250, 500, 250};
        for (int i = 0; i < 6; i++) {
            check.due("at(94, 1, " + i + ")", x.at(PLAIN, 1, i), one[i]);
            check.due("at(94, 2, " + i + ")", x.at(PLAIN, 2, i), two[i]);
        }
    }

    private void touching() {
        check.term("If z is 0 or below then, and w below 0, it TOUCHES:");
        check.due("z is 1, then below", Make.laid("g0;", 0, 0, 6, 0, 0, -5).touch(PLAIN, 0), 2);
        check.due("z is 0", Make.laid("g0;", 0, 0, 5, 0, 0, -5).touch(PLAIN, 0), 1);
        check.due("z is below", Make.laid("g0;", 0, 0, 4, 0, 0, -5).touch(PLAIN, 0), 1);
        check.due("w is -1", Make.laid("g0;", 0, 0, 0, 0, 0, -1).touch(PLAIN, 0), 1);
        check.due("w is 0", Make.laid("g0;", 0, 0, 0, 0, 0, 0).touch(PLAIN, 0), NO_TOUCH);
        check.due("w is 0 in TICK 1, -1 in 2", Make.laid("g1;", 0, 0, 0, 0, 0, 1).touch(PLAIN, 0), 2);
        check.due("w is above 0", Make.laid("g0;", 0, 0, 0, 0, 0, 1).touch(PLAIN, 0), NO_TOUCH);
        check.due("z begins at the highest", Make.laid("g0;", 0, 0, 100000, 0, 0, -2000).touch(PLAIN, 0), 50);
    }

    private void half() {
        check.term("with a HALF of (SQUEEZE times -w) by 10, cut;");
        // SQUEEZE, w, HALF
        int[][] rows = {{0, -2000, 0}, {1, -9, 0}, {1, -10, 1}, {1, -19, 1}, {1, -20, 2}, {3, -3, 0}, {3, -4, 1},
            {100, -1, 10}, {100, -2000, 20000}, {99, -1, 9}};
        for (int[] r : rows) {
            check.due("HALF by SQUEEZE " + r[0] + ", w " + r[1],
                Make.laid("g0;q" + r[0] + ";", 0, 0, 0, 0, 0, r[1]).touch(PLAIN, 3), r[2]);
        }
        check.due("w is that of the TOUCH", Make.laid("g100;q100;", 0, 0, 0, 0, 0, -2000).touch(PLAIN, 3), 21000);
    }

    private void bouncing() {
        check.term("then z is 0, w becomes (-w times BOUNCE) by 1000,");
        // BOUNCE, w, w behind it
        int[][] rows = {{0, -2000, 0}, {1000, -2000, 2000}, {1000, -1, 1}, {999, -1, 0}, {500, -1, 0}, {500, -2, 1},
            {500, -3, 1}, {1, -999, 0}, {1, -1000, 1}};
        for (int[] r : rows) {
            WasItOut x = Make.laid("g0;b" + r[0] + ";", 0, 0, 0, 0, 0, r[1]);
            check.due("w " + r[1] + " by BOUNCE " + r[0], x.at(PLAIN, 1, 5), r[2]);
            check.due("z", x.at(PLAIN, 1, 2), 0);
            check.due("z goes on from 0", x.at(PLAIN, 2, 2), r[2]);
        }
        check.due("a half without", Make.laid("g0;", 0, 0, 0, 0, 0, -9).at(PLAIN, 1, 5), 4);
    }

    private void gripping() {
        check.term("u (u times GRIP) by 1000, cut.");
        // GRIP, u, u behind it
        int[][] rows = {{0, 2000, 0}, {0, -2000, 0}, {1000, 2000, 2000}, {1000, -2000, -2000}, {500, 1, 0}, {500, -1, 0},
            {500, 3, 1}, {500, -3, -1}, {999, 1000, 999}, {999, -1000, -999}, {999, 1, 0}, {1, 999, 0}, {1, 1000, 1}};
        for (int[] r : rows) {
            WasItOut x = Make.laid("g0;r" + r[0] + ";", 0, 0, 0, r[1], 7, -1);
            check.due("u " + r[1] + " by GRIP " + r[0], x.at(PLAIN, 1, 3), r[2]);
            check.due("x has grown by u as it was", x.at(PLAIN, 1, 0), r[1]);
            check.due("x goes on by u as it is", x.at(PLAIN, 2, 0), r[1] + r[2]);
            check.due("v is not gripped", x.at(PLAIN, 1, 4), 7);
        }
        check.due("not without a TOUCH", Make.laid("g0;r0;", 0, 0, 0, 9).at(PLAIN, 600, 3), 9);
        check.due("all of it without", Make.laid("", 0, 0, 0, 9).at(PLAIN, 600, 3), 9);
    }

    private void farAway() {
        check.term("(x and the others are not bounded on the way; 600 TICKS at most.)");
        WasItOut up = Make.laid("g0;", 100000, 100000, 100000, 2000, 2000, 2000);
        check.due("x", up.at(188, 600, 0), 100000 + 600 * 2000);
        check.due("y", up.at(188, 600, 1), 100000 + 600 * 2010 + 4 * 600 * 601 / 2);
        check.due("z", up.at(188, 600, 2), 100000 + 600 * 2000);
        check.due("v", up.at(188, 600, 4), 2010 + 4 * 600);
        WasItOut down = Make.laid("g0;", -100000, -100000, 100000, -2000, -2000, 0);
        check.due("x", down.at(0, 600, 0), -100000 - 600 * 2000);
        check.due("y", down.at(0, 600, 1), -100000 - 600 * 2010 - 4 * 600 * 601 / 2);
        check.due("v", down.at(0, 600, 4), -2010 - 4 * 600);
        // 100 more a TICK: 99000 down in 44 TICKS, 103500 in 45
        WasItOut heavy = Make.laid("g100;q100;b1000;", 0, 0, 100000);
        check.due("w", heavy.at(PLAIN, 44, 5), -4400);
        check.due("z", heavy.at(PLAIN, 44, 2), 1000);
        check.due("its TOUCH", heavy.touch(PLAIN, 0), 45);
        check.due("its HALF", heavy.touch(PLAIN, 3), 45000);
        check.due("w behind it", heavy.at(PLAIN, 45, 5), 4500);
        check.due("the last TICK", up.at(PLAIN, 600, 0) != BAD_PLACE);
        check.due("no TICK", up.at(PLAIN, 601, 0), BAD_PLACE);
        check.due("a TOUCH in the last TICK", Make.laid("g0;", 0, 0, 600, 0, 0, -1).touch(PLAIN, 0), 600);
        check.due("it would be later", Make.laid("g0;", 0, 0, 601, 0, 0, -1).touch(PLAIN, 0), NO_TOUCH);
        // the farthest place of a TOUCH, where THE LINE is asked for
        WasItOut far = Make.laid("g0;l9999,9999;q100;", 100000, 100000, 600, 2000, 2000, -1);
        check.due("x of a TOUCH", far.touch(188, 1), 1300000);
        check.due("y of a TOUCH", far.touch(188, 2), 2027200);
        check.due("OUT", far.touch(188, 4), 1);
    }

    private void ballAtFirst() {
        check.term("THE BALL begins as told (at first all 0);");
        WasItOut x = new WasItOut();
        for (int i = 0; i < 6; i++) {
            check.due("at(94, 0, " + i + ")", x.at(PLAIN, 0, i), 0);
            check.due("ball(" + i + ", ..)", x.ball(i, i + 1), 0);
        }
        for (int i = 0; i < 6; i++) {
            check.due("at(94, 0, " + i + ")", x.at(PLAIN, 0, i), i + 1);
        }
    }

    private void curves() {
        check.term("what isn't known: v may be m more (-10 to 10), SPIN s (-4 to 4): CURVES 0 to 188: 9 times (m and 10) and"
            + " s and 4.");
        for (int m = -10; m <= 10; m++) {
            WasItOut x = Make.laid("", 0, 100, 50, 0, 30, 0);
            for (int s = -4; s <= 4; s++) {
                int curve = 9 * (m + 10) + s + 4;
                check.due("v of curve " + curve + " at first", x.at(curve, 0, 4), 30 + m);
                check.due("v of curve " + curve + " in TICK 1", x.at(curve, 1, 4), 30 + m + s);
                check.due("y of curve " + curve + " in TICK 1", x.at(curve, 1, 1), 100 + 30 + m + s);
                check.due("y of curve " + curve + " in TICK 2", x.at(curve, 2, 1), 100 + 60 + 2 * m + 3 * s);
            }
        }
        check.due("as many fit as there are", new WasItOut().fitting(-1), 189);
        check.due("none below", new WasItOut().at(-1, 0, 0), BAD_PLACE);
        check.due("none above", new WasItOut().at(189, 0, 0), BAD_PLACE);
        check.due("m goes beyond what is told of v", Make.laid("", 0, 0, 0, 0, 2000).at(188, 0, 4), 2010);
        check.due("m goes beyond what is told of v", Make.laid("", 0, 0, 0, 0, -2000).at(0, 0, 4), -2010);
    }

    private void firstTouch() {
        check.term("TOUCH of a CURVE: the first TICK (from 1) by which it TOUCHES, where, its HALF; none.");
        WasItOut lying = Make.laid("q100;", 7, 8, 0, 0, 0, -2000);
        check.due("from 1", lying.touch(PLAIN, 0), 1);
        // falls to 0 in 4 TICKS, bounces with 2 and TOUCHES again in TICK 7
        WasItOut x = Make.laid("q10;", 0, 0, 10, 20, 6, 0);
        check.due("the first of several", x.touch(PLAIN, 0), 4);
        check.due("where: x", x.touch(PLAIN, 1), 80);
        check.due("where: y", x.touch(PLAIN, 2), 24);
        check.due("its HALF", x.touch(PLAIN, 3), 4);
        check.due("it does bounce again", x.at(PLAIN, 7, 2), 0);
        WasItOut never = Make.laid("g0;", 0, 0, 1);
        WasItOut late = Make.laid("g0;", 0, 0, 100000, 0, 0, -166);
        for (int i = 0; i < 5; i++) {
            check.due("none", never.touch(PLAIN, i), NO_TOUCH);
            check.due("none by then", late.touch(PLAIN, i), NO_TOUCH);
        }
        late.ball(5, -167);
        check.due("100000 by 167 are 599 TICKS", late.touch(PLAIN, 0), 599);
    }

    private void out() {
        check.term("OUT is a CURVE, if y less HALF is above THE LINE there; without a TOUCH it is neither.");
        // in TICK 1 at x 5, y 20 and m and s, HALF 6
        WasItOut x = Make.laid("g0;q10;l5,14;l6,-9999;", 0, 20, 0, 5, 0, -6);
        check.due("at THE LINE", x.touch(PLAIN, 4), 0);
        check.due("one above", x.touch(PLAIN + 1, 4), 1);
        check.due("one below", x.touch(PLAIN - 1, 4), 0);
        Make.lay(x, "g0;q10;l5,13;");
        check.due("THE LINE one lower", x.touch(PLAIN, 4), 1);
        Make.lay(x, "g0;q10;l6,13;");
        check.due("THE LINE there is at 0", x.touch(Make.curve(-10, -4), 4), 0);
        check.due("THE LINE there is at 0", x.touch(Make.curve(-10, -3), 4), 1);
        Make.lay(x, "g0;q9;l5,14;");
        check.due("HALF 5", x.touch(PLAIN, 4), 1);
        WasItOut none = Make.laid("g0;", 0, 100, 1);
        check.due("neither", none.touch(PLAIN, 4), NO_TOUCH);
        check.due("not OUT", none.odds(0), 0);
        check.due("not IN", none.odds(1), 0);
    }

    private void ball() {
        check.promise(8, "THE BALL begins: where (0 x, 1 y, 2 z) and with what (3 u, 4 v, 5 w): what it was.");
        WasItOut x = new WasItOut();
        for (int i = 0; i < 6; i++) {
            check.due("what it was at first", x.ball(i, LOWEST[i]), 0);
            check.due("the lowest", x.ball(i, HIGHEST[i]), LOWEST[i]);
            check.due("the highest", x.ball(i, HIGHEST[i]), HIGHEST[i]);
            check.due("the highest", x.ball(i, 10 + i), HIGHEST[i]);
        }
        for (int i = 0; i < 6; i++) {
            check.due("each for itself", x.ball(i, 0), 10 + i);
        }
    }

    private void ballRefused() {
        check.promise(8, "BAD answers -1000000.");
        check.bounds("ball(.., 0)", 0, 5, BAD_BALL, what -> new WasItOut().ball(what, 0));
        for (int i = 0; i < 6; i++) {
            int what = i;
            check.bounds("ball(" + i + ", ..)", LOWEST[i], HIGHEST[i], BAD_BALL, v -> Make.busy().ball(what, v));
            WasItOut x = new WasItOut();
            x.ball(i, 5);
            for (int v : new int[] {LOWEST[i] - 1, HIGHEST[i] + 1}) {
                check.due("ball(" + i + ", " + v + ")", x.ball(i, v), BAD_BALL);
                check.due("it begins as it did", x.at(PLAIN, 0, i), 5);
            }
        }
        check.due("neither is told", new WasItOut().ball(6, 100001), BAD_BALL);
    }

    private void at() {
        check.promise(9, "A CURVE in TICK t (0 to 600): x, y, z, u, v, w.");
        WasItOut x = Make.laid("g0;", 1, 2, 3, 4, 5, 6);
        int[] last = {1 + 2400, 2 + 3000, 3 + 3600, 4, 5, 6};
        for (int i = 0; i < 6; i++) {
            check.due("at(94, 0, " + i + ")", x.at(PLAIN, 0, i), i + 1);
            check.due("at(94, 600, " + i + ")", x.at(PLAIN, 600, i), last[i]);
        }
        check.due("behind the last it is the same as before", x.at(PLAIN, 0, 1), 2);
        check.due("the first CURVE", x.at(0, 600, 1), 2 + 600 * -5 - 4 * 600 * 601 / 2);
        check.due("the last CURVE", x.at(188, 600, 1), 2 + 600 * 15 + 4 * 600 * 601 / 2);
        check.due("the last but one TICK", x.at(PLAIN, 599, 0), 1 + 4 * 599);
    }

    private void atRefused() {
        check.promise(9, "BAD answers -2000000000.");
        check.bounds("at(.., 0, 0)", 0, 188, BAD_PLACE, curve -> new WasItOut().at(curve, 0, 0));
        check.bounds("at(0, .., 0)", 0, 600, BAD_PLACE, t -> new WasItOut().at(0, t, 0));
        check.bounds("at(0, 0, ..)", 0, 5, BAD_PLACE, what -> new WasItOut().at(0, 0, what));
        check.due("none is told", new WasItOut().at(189, 601, 6), BAD_PLACE);
    }

    private void touch() {
        check.promise(10, "TOUCH: its TICK (what = 0), x (1), y (2), HALF (3), 1 if it is OUT, 0 (4).");
        WasItOut x = Make.laid("q25;l80,14;", 0, 0, 10, 20, 6, 0);
        int[] due = {4, 80, 24, 10, 0};
        for (int i = 0; i < 5; i++) {
            check.due("touch(94, " + i + ")", x.touch(PLAIN, i), due[i]);
        }
        // an m is 4 TICKS of 1, an s 1 and 2 and 3 and 4
        check.due("y of the first CURVE", x.touch(0, 2), 24 - 40 - 40);
        check.due("y of the last CURVE", x.touch(188, 2), 24 + 40 + 40);
        check.due("the last CURVE is OUT", x.touch(188, 4), 1);
        check.due("the first is not", x.touch(0, 4), 0);
    }

    private void touchRefused() {
        check.promise(10, "NONE -2000000004; BAD answers -2000000000.");
        check.bounds("touch(.., 0)", 0, 188, BAD_PLACE, curve -> new WasItOut().touch(curve, 0));
        check.bounds("touch(0, ..)", 0, 4, BAD_PLACE, what -> new WasItOut().touch(0, what));
        WasItOut none = Make.laid("g0;");
        for (int curve = 0; curve < 189; curve += 47) {
            for (int i = 0; i < 5; i++) {
                check.due("touch(" + curve + ", " + i + ")", none.touch(curve, i), NO_TOUCH);
            }
        }
        check.due("of both the first", none.touch(189, 0), BAD_PLACE);
        check.due("of both the first", none.touch(-1, 0), BAD_PLACE);
        check.due("of both the first", none.touch(0, 5), BAD_PLACE);
        check.due("of both the first", none.touch(0, -1), BAD_PLACE);
    }
}
