/** Objects in the states that tests ask for. */
final class Make {
    private Make() {
    }

    /** Writes a text, eight bytes at a time where it can. */
    static void put(WasItOut x, String s) {
        for (int from = 0; from < s.length(); from += 8) {
            String piece = s.substring(from, Math.min(s.length(), from + 8));
            x.write(piece.length(), bytes(piece));
        }
    }

    static long bytes(String s) {
        long v = 0;
        for (char c : s.toCharArray()) {
            v = v << 8 | c;
        }
        return v;
    }

    static WasItOut written(String s) {
        WasItOut x = new WasItOut();
        put(x, s);
        return x;
    }

    static WasItOut laid(String s) {
        WasItOut x = written(s);
        x.lay();
        return x;
    }

    static WasItOut laid(String s, int... ball) {
        WasItOut x = laid(s);
        ball(x, ball);
        return x;
    }

    static void lay(WasItOut x, String s) {
        x.wipe();
        put(x, s);
        x.lay();
    }

    /** x, y, z, u, v, w, as many as are told. */
    static void ball(WasItOut x, int... numbers) {
        for (int i = 0; i < numbers.length; i++) {
            x.ball(i, numbers[i]);
        }
    }

    /** A new object's CURVES TOUCH in TICK 1, at y = m and s; this one has CAMERA 0 see y. */
    static WasItOut seeingY(String law) {
        WasItOut x = laid(law);
        x.camera(0, 1, 10);
        return x;
    }

    /** The CURVE of m and s. */
    static int curve(int m, int s) {
        return 9 * (m + 10) + s + 4;
    }

    /** A 200 byte text of 66 ITEMS. */
    static String longest() {
        return "g1;".repeat(64) + "b70;a10;";
    }

    /** Something of everything, nothing full; what is written is not what is laid. */
    static WasItOut busy() {
        WasItOut x = laid("a20;g2;b700;r900;q12;t77;l-50,4;l40,9;k30,25,60;", -40, 3, 30, 9, -1, 4);
        lens(x);
        x.blur(0, 2, 3, 40);
        x.mark(70, -10, 300);
        x.leave(2);
        x.keep();
        x.ball(1, 5);
        x.blur(1, 3, -8, 30);
        x.heard(60, 0, 9, 8, 20);
        x.blur(2, 4, 20, 45);
        x.leave(4);
        judging(x, 9, 5);
        x.wipe();
        put(x, "g3;q7;t61;l2,3;");
        return x;
    }

    /** All that can be full is full. */
    static WasItOut full() {
        WasItOut x = laid("a20;g2;b700;r900;q12;t77;l-50,4;l40,9;k30,25,60;", -40, 3, 30, 9, -1, 4);
        lens(x);
        for (int i = 0; i < 30; i++) {
            if (i == 10 || i == 20) {
                x.keep();
                x.ball(1, i);
                x.leave(i / 2);
            }
            sight(x, i);
        }
        judging(x, 60, 30);
        x.wipe();
        put(x, longest());
        return x;
    }

    private static void lens(WasItOut x) {
        for (int i = 0; i < 12; i++) {
            x.camera(i / 3, i % 3, i * 7 % 11 - 5);
        }
    }

    private static void sight(WasItOut x, int i) {
        if (i % 3 == 0) {
            x.blur(i % 4, i, i - 9, 20 + i);
        } else if (i % 3 == 1) {
            x.mark(60 + i, i - 20, 100 + i);
        } else {
            x.heard(50 + i, i, 10, i, 3 + i);
        }
    }

    private static void judging(WasItOut x, int calls, int cases) {
        for (int i = 0; i < calls; i++) {
            x.call(i * 7 % 41 - 20, i % 2, i % 3 > 0);
        }
        for (int i = 0; i < cases; i++) {
            x.truly(i * 37 % 101, i % 4 > 1);
        }
        int[] share = {2, 5, 1, 2};
        for (int i = 0; i < 4; i++) {
            x.sort(i, 0, share[i]);
            x.sort(i, 1, 2 * i + 1);
        }
    }

    /** Nothing can be asked of it: no TOUCH, a MARK that none FITS, shares that are not ten, a FAULT. */
    static WasItOut barren() {
        WasItOut x = laid("g0;", 1, 2, 3, 4, 5, 6);
        x.mark(1, 1, 1000);
        x.blur(3, 0, 5, 1);
        x.sort(0, 0, 9);
        x.sort(2, 1, 4);
        put(x, "t50;");
        return x;
    }
}
