/** Sentences on A JUDGE, ASKS, CASES, what is KEPT and what is refused: a part of "Terms", promises 25 to 34. */
final class JudgeEdges {
    private static final int BAD = Check.BAD, NO = Check.NO, FULL = Check.FULL, NONE = Check.NONE;
    private static final int BAD_LEAN = -100;

    private final Check check;

    private JudgeEdges(Check check) {
        this.check = check;
    }

    static void run(Check check) {
        JudgeEdges e = new JudgeEdges(check);
        e.judge();
        e.leaning();
        e.tenths();
        e.asking();
        e.worthOf();
        e.whenToAsk();
        e.casesOf();
        e.bestRule();
        e.keptOnes();
        e.call();
        e.lean();
        e.sort();
        e.worth();
        e.when();
        e.truly();
        e.bestSure();
        e.keep();
        e.back();
        e.count();
    }

    private static WasItOut withCalls(int many) {
        WasItOut x = new WasItOut();
        for (int i = 0; i < many; i++) {
            x.call(5, 0, false);
        }
        return x;
    }

    private void judge() {
        check.term("A JUDGE: calls, 60 at most: by how much it was out (-20 to 20; 0 and below is in), the side that it helps"
            + " (0, 1), called out or not.");
        check.due("none at first", new WasItOut().count(3), 0);
        check.bounds("by how much", -20, 20, BAD, by -> new WasItOut().call(by, 0, true));
        check.bounds("the side", 0, 1, BAD, side -> new WasItOut().call(0, side, true));
        WasItOut x = new WasItOut();
        for (int i = 1; i <= 60; i++) {
            check.due("of both sides together", x.call(i % 41 - 20, i % 2, i % 3 == 0), i);
        }
        check.due("the 61st", x.call(0, 0, true), FULL);
        check.due("of the other side", x.call(0, 1, false), FULL);
        check.due("count(3)", x.count(3), 60);
        WasItOut y = withCalls(59);
        y.call(20, 0, false);
        check.due("the 60th counts", y.lean(0, 0), 20);
        WasItOut z = new WasItOut();
        z.call(0, 0, false);
        z.call(1, 0, true);
        z.call(0, 1, true);
        check.due("0 is in, 1 is out: a judge who doesn't lean", z.lean(0, 0), 0);
        check.due("none is not so", z.lean(0, 1), 0);
        check.due("called out by 0: one who leans", z.lean(1, 0), -1);
    }

    /** LEAN of side 0 and how many are not so, calls told as by how much and 1 for out. */
    private void leans(String what, int lean, int unlike, int... calls) {
        WasItOut x = new WasItOut();
        for (int i = 0; i + 1 < calls.length; i += 2) {
            x.call(calls[i], 0, calls[i + 1] == 1);
        }
        check.due(what, x.lean(0, 0), lean);
        check.due(what + ": not so", x.lean(0, 1), unlike);
        check.due(what + ": the other side", x.lean(1, 0), 0);
        check.due(what + ": the other side's not so", x.lean(1, 1), 0);
    }

    private void leaning() {
        check.term("LEAN of a side: that L (-20 to 20) by which most of its calls are so: out, if it was out by more than L;"
            + " of several the one nearest 0, then the lower; how many are not so.");
        leans("no calls", 0, 0);
        leans("L 20 is the highest", 20, 0, 20, 0);
        leans("L -20 is the lowest", -20, 0, -19, 1);
        leans("no L is below -20", 0, 1, -20, 1);
        leans("20 called out", 0, 0, 20, 1);
        leans("-20 called in", 0, 0, -20, 0);
        leans("more than L", 5, 0, 5, 0, 6, 1);
        leans("more than L", -6, 0, -6, 0, -5, 1);
        leans("the nearest of several", 3, 0, 3, 0, 9, 1);
        leans("the nearest of several", -4, 0, -9, 0, -3, 1);
        leans("the lower of two as near", -1, 1, 0, 1, 1, 0);
        leans("the lower of two as near", -7, 2, -6, 1, -6, 1, 7, 0, 7, 0);
        leans("nearer is ahead of lower", 6, 2, -6, 1, -6, 1, 6, 0, 6, 0);
        leans("more of them is ahead of nearer", 9, 1, 9, 0, 9, 0, 0, 1);
        leans("each L alike but for one", 0, 1, 5, 0, 5, 1);
    }

    /** p of the four sorts, then r of them. */
    private static WasItOut sorts(int... tenths) {
        WasItOut x = new WasItOut();
        for (int i = 0; i < tenths.length; i++) {
            x.sort(i % 4, i / 4, tenths[i]);
        }
        return x;
    }

    private void tenths() {
        check.term("ASK: sorts 0 to 3 of balls come with p tenths (0 to 10; together 10, else NO; 10, 0, 0, 0 at first),"
            + " asked one is right with r tenths (0 to 10; 0 at first).");
        for (int s = 0; s < 4; s++) {
            int sort = s;
            check.due("p at first", new WasItOut().sort(s, 0, 1), s == 0 ? 10 : 0);
            check.due("r at first", new WasItOut().sort(s, 1, 1), 0);
            check.bounds("p of sort " + s, 0, 10, BAD, v -> new WasItOut().sort(sort, 0, v));
            check.bounds("r of sort " + s, 0, 10, BAD, v -> new WasItOut().sort(sort, 1, v));
        }
        check.bounds("sort", 0, 3, BAD, s -> new WasItOut().sort(s, 0, 0));
        int[][] shares = {{9, 0, 0, 0}, {10, 0, 0, 1}, {0, 0, 0, 0}, {10, 10, 10, 10}, {3, 3, 3, 0}, {3, 3, 3, 2},
            {10, 0, 0, 0}, {0, 10, 0, 0}, {0, 0, 10, 0}, {0, 0, 0, 10}, {1, 2, 3, 4}, {3, 3, 3, 1}};
        for (int i = 0; i < shares.length; i++) {
            WasItOut x = sorts(shares[i]);
            check.due("worth by shares " + i, x.worth(1, 1, 1), i < 6 ? NO : 1);
            check.due("when by shares " + i, x.when(0, 1, 0), i < 6 ? NO : 0);
        }
        check.due("at first they are ten", new WasItOut().worth(8, 8, 0), 0);
    }

    private void worths(String what, WasItOut x, int n, int k, long above, long below) {
        check.due(what + ", above", x.worth(n, k, 0), above);
        check.due(what + ", below", x.worth(n, k, 1), below);
    }

    private void asking() {
        check.term("With n balls (0 to 8) and k asks (0 to 8) left: a ball comes; one may ask, if one has an ask: right: 1 won,"
            + " the ask is kept; wrong: the ask is gone.");
        WasItOut half = sorts(10, 0, 0, 0, 5);
        worths("no balls", half, 0, 8, 0, 1);
        worths("no asks", half, 8, 0, 0, 1);
        worths("neither", half, 0, 0, 0, 1);
        worths("one ball, one ask", half, 1, 1, 1, 2);
        worths("one ball, eight asks", half, 1, 8, 1, 2);
        worths("eight balls, one ask: kept while right", half, 8, 1, 255, 256);
        worths("eight balls, eight asks", half, 8, 8, 4, 1);
        // of eight balls all but the last, if all seven before it were wrong
        worths("eight balls, seven asks", half, 8, 7, 8 * 256 / 2 - 1, 256);
        worths("always right", sorts(10, 0, 0, 0, 10), 8, 1, 8, 1);
        worths("never right", sorts(10, 0, 0, 0, 0), 8, 8, 0, 1);
        check.bounds("n of worth", 0, 8, -1, n -> half.worth(n, 8, 0));
        check.bounds("k of worth", 0, 8, -1, k -> half.worth(8, k, 0));
    }

    private void worthOf() {
        check.term("WORTH: the most that one can win on the average: a fraction in lowest terms.");
        worths("0 is 0 by 1", new WasItOut(), 8, 8, 0, 1);
        worths("a whole is by 1", sorts(10, 0, 0, 0, 5), 2, 2, 1, 1);
        worths("tenths", sorts(10, 0, 0, 0, 3), 1, 1, 3, 10);
        worths("fifths", sorts(10, 0, 0, 0, 4), 1, 1, 2, 5);
        worths("3 tenths and 9 hundredths ..", sorts(10, 0, 0, 0, 3), 8, 1, 42854331L, 100000000L);
        // one in ten comes and is right by one in ten: a hundredth and 91 hundredths of what was before, eight times
        worths("the greatest below", sorts(1, 9, 0, 0, 1, 0), 8, 1, 588608302649831L, 10000000000000000L);
        // the last ball is worth 3 / 5: to ask the sort of 3 tenths ahead of it is worth 12 / 25
        worths("to wait is better", sorts(5, 5, 0, 0, 9, 3), 2, 1, 51, 50);
        worths("with two asks it isn't", sorts(5, 5, 0, 0, 9, 3), 2, 2, 6, 5);
        worths("a sort that doesn't come is worth nothing", sorts(0, 10, 0, 0, 10, 0), 8, 8, 0, 1);
        worths("each sort for its share", sorts(1, 2, 3, 4, 10, 5, 0, 5), 1, 1, 2, 5);
    }

    private void whenToAsk() {
        check.term("WHEN: whether a sort should be asked then (not, if both are alike).");
        WasItOut never = new WasItOut();
        check.due("never right, alike", never.when(0, 1, 0), 0);
        check.due("right by a tenth", sorts(10, 0, 0, 0, 1).when(0, 1, 0), 1);
        check.due("without an ask", sorts(10, 0, 0, 0, 10).when(0, 0, 0), 0);
        check.due("with the last ask", sorts(10, 0, 0, 0, 10).when(7, 1, 0), 1);
        // one ball more is worth 1: to ask sort 1 is worth twice its r
        int[] due = {0, 0, 0, 0, 0, 0, 1, 1, 1, 1, 1};
        for (int r = 0; r <= 10; r++) {
            check.due("r " + r + " by 1", sorts(10, 0, 0, 0, 10, r).when(1, 1, 1), due[r]);
        }
        // one ball more is worth 1 / 4: to ask sort 2 is worth 5 / 4 of its r
        int[] quarter = {0, 0, 0, 1, 1, 1, 1, 1, 1, 1, 1};
        for (int r = 0; r <= 10; r++) {
            check.due("r " + r + " by 1 / 4", sorts(5, 5, 0, 0, 5, 0, r).when(1, 1, 2), quarter[r]);
        }
        check.due("an ask more than balls: alike, never right", sorts(5, 5, 0, 0, 5, 0).when(1, 2, 1), 0);
        check.due("an ask more than balls, right at times", sorts(5, 5, 0, 0, 5, 1).when(1, 2, 1), 1);
    }

    private static WasItOut withCases(int many) {
        WasItOut x = new WasItOut();
        for (int i = 0; i < many; i++) {
            x.truly(100, true);
        }
        return x;
    }

    private void casesOf() {
        check.term("CASES, 30 at most: of 100 CURVES how many were OUT (0 to 100; the others IN), whether it was truly out.");
        check.due("none at first", new WasItOut().count(4), 0);
        check.bounds("truly", 0, 100, BAD, out -> new WasItOut().truly(out, true));
        check.bounds("truly", 0, 100, BAD, out -> new WasItOut().truly(out, false));
        WasItOut x = withCases(29);
        check.due("none wrong", x.bestSure(1), 0);
        check.due("the 30th", x.truly(100, false), 30);
        check.due("it counts", x.bestSure(1), 1);
        check.due("the 31st", x.truly(100, false), FULL);
        check.due("it doesn't", x.bestSure(1), 1);
        WasItOut in = new WasItOut();
        in.truly(0, false);
        check.due("the others are IN", in.bestSure(2), 0);
        in.truly(0, true);
        check.due("the others are IN", in.bestSure(1), 1);
    }

    /** BEST SURE, WRONG, untold; cases told as how many were OUT and 1 for truly out. */
    private void best(String what, int sure, int wrong, int untold, int... cases) {
        WasItOut x = new WasItOut();
        for (int i = 0; i + 1 < cases.length; i += 2) {
            x.truly(cases[i], cases[i + 1] == 1);
        }
        check.due(what, x.bestSure(0), sure);
        check.due(what + ": WRONG", x.bestSure(1), wrong);
        check.due(what + ": can't be told", x.bestSure(2), untold);
    }

    private void bestRule() {
        check.term("BEST SURE: that s (51 to 100) by which WRONG ones (called out, if s or more are OUT, that were in; called"
            + " in, if s or more are IN, that were out) are fewest, of these that by which those that can't be told are"
            + " fewest, the lowest of these; how many WRONG; how many can't be told.");
        best("no cases", 51, 0, 0);
        best("the lowest s", 51, 0, 0, 51, 1);
        best("the lowest s", 51, 0, 0, 49, 0);
        best("half and half", 51, 0, 1, 50, 1);
        best("half and half", 51, 0, 1, 50, 0);
        best("one of 51 wrong by 51", 52, 0, 1, 51, 0);
        best("one of 49 wrong by 51", 52, 0, 1, 49, 1);
        best("99 wrong up to 99", 100, 0, 1, 99, 0);
        best("1 wrong up to 99", 100, 0, 1, 1, 1);
        best("100 is wrong by each s", 51, 1, 0, 100, 0);
        best("0 is wrong by each s", 51, 1, 0, 0, 1);
        best("told by s or more", 71, 0, 1, 70, 0, 71, 1, 29, 0);
        best("fewest wrong are ahead of those told", 81, 0, 3, 80, 0, 70, 1, 75, 1);
        best("of these the fewest untold", 61, 1, 1, 100, 0, 60, 0, 61, 1);
        best("of these the lowest", 51, 0, 0, 60, 1, 40, 0);
        best("100 at the highest s", 100, 0, 1, 99, 0, 100, 1, 0, 0);
    }

    private void keptOnes() {
        check.term("KEPT are THE BALL, SIGHTS, CAMERAS left out: 2 at most.");
        check.due("none at first", new WasItOut().count(5), 0);
        WasItOut x = Make.laid("", 1, 2, 3, 4, 5, 6);
        x.mark(1, 1, 1);
        x.leave(3);
        check.due("one", x.keep(), 1);
        Make.ball(x, 7, 7, 7, 7, 7, 7);
        x.noSights();
        x.leave(15);
        check.due("two", x.keep(), 2);
        check.due("three", x.keep(), FULL);
        Make.ball(x, 8, 8, 8, 8, 8, 8);
        x.mark(2, 2, 2);
        x.leave(4);
        x.back();
        for (int i = 0; i < 6; i++) {
            check.due("THE BALL of the second", x.at(94, 0, i), 7);
        }
        check.due("SIGHTS of the second: none", x.count(2), 0);
        check.due("CAMERAS of the second", x.leave(15), 15);
        x.back();
        for (int i = 0; i < 6; i++) {
            check.due("THE BALL of the first", x.at(94, 0, i), i + 1);
        }
        check.due("SIGHTS of the first", x.count(2), 1);
        check.due("CAMERAS of the first", x.leave(3), 3);
        keptKinds();
        keptFull();
        notKept();
    }

    /** Each SIGHT's kind and numbers, others having come in its place. */
    private void keptKinds() {
        WasItOut x = Make.seeingY("");
        x.blur(0, 1, 14, 0);
        x.mark(0, 13, 0);
        x.heard(0, 0, 3, 0, 6);
        x.keep();
        x.noSights();
        x.heard(9, 9, 9, 9, 9);
        x.blur(1, 0, 5, 9);
        x.mark(9, 9, 9);
        x.keep();
        x.noSights();
        x.mark(1, 1, 1);
        x.mark(2, 2, 2);
        x.mark(3, 3, 3);
        x.back();
        int[] second = {2, BAD, 1};
        for (int i = 0; i < 3; i++) {
            check.due("SIGHT " + i + " of the second", x.whose(i), second[i]);
        }
        check.due("the BLUR of the second", x.fits(0, 1), 1);
        x.back();
        check.due("the BLUR of the first", x.fits(188, 0), 1);
        check.due("the BLUR of the first", x.fits(187, 0), 0);
        check.due("the MARK of the first", x.fits(187, 1), 1);
        check.due("the MARK of the first", x.fits(188, 1), 0);
        check.due("HEARD of the first", x.fits(Make.curve(8, 4), 2), 1);
        check.due("HEARD of the first", x.fits(188, 2), 0);
        check.due("HEARD of the first", x.fits(Make.curve(2, 4), 2), 0);
    }

    private void keptFull() {
        WasItOut x = new WasItOut();
        for (int i = 0; i < 30; i++) {
            x.mark(0, 0, i < 29 ? 1000 : 0);
        }
        x.keep();
        x.noSights();
        x.keep();
        x.mark(50, 50, 0);
        x.back();
        check.due("none are kept, too", x.count(2), 0);
        x.back();
        check.due("thirty are kept", x.count(2), 30);
        check.due("the last as it was", x.fitting(-1), 9);
        check.due("and it is full", x.mark(0, 0, 0), FULL);
    }

    private void notKept() {
        WasItOut x = new WasItOut();
        x.keep();
        x.camera(1, 1, 9);
        x.call(1, 1, true);
        x.truly(1, false);
        x.sort(1, 1, 7);
        Make.lay(x, "g9;");
        x.back();
        check.due("a CAMERA's numbers are not", x.camera(1, 1, 0), 9);
        check.due("calls are not", x.count(3), 1);
        check.due("CASES are not", x.count(4), 1);
        check.due("sorts are not", x.sort(1, 1, 0), 7);
        check.due("what is LAID is not", x.law(1), 9);
        check.due("THE TEXT is not", x.count(0), 3);
    }

    private void call() {
        check.promise(25, "A JUDGE's call: how many. BAD; FULL: 60.");
        check.due("the first", new WasItOut().call(-20, 0, true), 1);
        check.due("the second", withCalls(1).call(20, 1, false), 2);
        check.due("the 60th", withCalls(59).call(0, 0, true), 60);
        check.due("the 61st", withCalls(60).call(0, 0, true), FULL);
        int[][] bad = {{-21, 0}, {21, 0}, {0, -1}, {0, 2}, {21, 2}, {Check.LOW, 0}, {Check.HIGH, 0}, {0, Check.LOW},
            {0, Check.HIGH}};
        for (int[] b : bad) {
            check.due("BAD", new WasItOut().call(b[0], b[1], true), BAD);
            check.due("of both the first", withCalls(60).call(b[0], b[1], false), BAD);
        }
        WasItOut x = withCalls(2);
        x.call(21, 0, true);
        check.due("BAD is not counted", x.call(20, 0, true), 3);
    }

    private void lean() {
        check.promise(26, "LEAN of a side (what = 0), how many are not so (1). BAD answers -100.");
        WasItOut x = new WasItOut();
        x.call(4, 0, false);
        x.call(-4, 1, true);
        x.call(-4, 1, true);
        x.call(-4, 1, false);
        check.due("side 0", x.lean(0, 0), 4);
        check.due("side 0, not so", x.lean(0, 1), 0);
        check.due("side 1", x.lean(1, 0), -5);
        check.due("side 1, not so", x.lean(1, 1), 1);
        check.bounds("lean(.., 0)", 0, 1, BAD_LEAN, side -> new WasItOut().lean(side, 0));
        check.bounds("lean(0, ..)", 0, 1, BAD_LEAN, what -> new WasItOut().lean(0, what));
        check.bounds("lean(.., 1) when full", 0, 1, BAD_LEAN, side -> withCalls(60).lean(side, 1));
    }

    private void sort() {
        check.promise(27, "p (what = 0), r (1) of a sort: what it was. BAD.");
        WasItOut x = new WasItOut();
        for (int s = 0; s < 4; s++) {
            check.due("p", x.sort(s, 0, s + 1), s == 0 ? 10 : 0);
            check.due("r", x.sort(s, 1, s + 6), 0);
        }
        for (int s = 0; s < 4; s++) {
            check.due("p, too much", x.sort(s, 0, 11), BAD);
            check.due("r, too little", x.sort(s, 1, -1), BAD);
            check.due("p as it was", x.sort(s, 0, 10), s + 1);
            check.due("p, the highest", x.sort(s, 0, 0), 10);
            check.due("r as it was", x.sort(s, 1, 10), s + 6);
            check.due("r, the highest", x.sort(s, 1, 0), 10);
        }
        check.bounds("sort(.., 1, 0)", 0, 3, BAD, s -> new WasItOut().sort(s, 1, 0));
        check.bounds("sort(0, .., 0)", 0, 1, BAD, what -> new WasItOut().sort(0, what, 0));
        check.bounds("sort(3, 1, ..)", 0, 10, BAD, v -> new WasItOut().sort(3, 1, v));
    }

    private void worth() {
        check.promise(28, "WORTH: above (part = 0), below (1). BAD answers -1; NO -2.");
        check.due("above", sorts(10, 0, 0, 0, 7).worth(1, 1, 0), 7);
        check.due("below", sorts(10, 0, 0, 0, 7).worth(1, 1, 1), 10);
        check.bounds("worth(.., 0, 0)", 0, 8, -1, n -> new WasItOut().worth(n, 0, 0));
        check.bounds("worth(0, .., 0)", 0, 8, -1, k -> new WasItOut().worth(0, k, 0));
        check.bounds("worth(0, 0, ..)", 0, 1, -1, part -> new WasItOut().worth(0, 0, part));
        WasItOut not = sorts(9);
        check.due("not ten", not.worth(0, 0, 0), -2);
        check.due("not ten", not.worth(8, 8, 1), -2);
        int[][] bad = {{-1, 0, 0}, {9, 0, 0}, {0, -1, 0}, {0, 9, 0}, {0, 0, -1}, {0, 0, 2}};
        for (int[] b : bad) {
            check.due("of both the first", not.worth(b[0], b[1], b[2]), -1);
        }
        not.sort(3, 0, 1);
        check.due("ten again", not.worth(8, 8, 1), 1);
        not.sort(3, 1, 5);
        check.due("a share changes it", not.worth(1, 1, 1), 20);
    }

    private void when() {
        check.promise(29, "WHEN, one of that sort having come with n balls more to come (0 to 7): 1 ask, 0. BAD; NO.");
        WasItOut x = sorts(10, 0, 0, 0, 5, 1, 2, 3);
        check.due("with none more to come", x.when(0, 1, 0), 1);
        check.due("with seven more to come", x.when(7, 8, 0), 1);
        check.due("another sort, with none more to come", x.when(0, 1, 1), 1);
        check.due("another sort, with seven more to come", x.when(7, 1, 1), 0);
        check.due("the last sort, with an ask for each ball", x.when(7, 8, 3), 1);
        check.bounds("when(.., 0, 0)", 0, 7, BAD, n -> new WasItOut().when(n, 0, 0));
        check.bounds("when(0, .., 0)", 0, 8, BAD, k -> new WasItOut().when(0, k, 0));
        check.bounds("when(0, 0, ..)", 0, 3, BAD, s -> new WasItOut().when(0, 0, s));
        WasItOut not = sorts(9);
        check.due("not ten", not.when(0, 0, 0), NO);
        check.due("not ten", not.when(7, 8, 3), NO);
        int[][] bad = {{-1, 0, 0}, {8, 0, 0}, {0, -1, 0}, {0, 9, 0}, {0, 0, -1}, {0, 0, 4}};
        for (int[] b : bad) {
            check.due("of both the first", not.when(b[0], b[1], b[2]), BAD);
        }
    }

    private void truly() {
        check.promise(30, "A CASE: how many. BAD; FULL: 30.");
        check.due("the first", new WasItOut().truly(0, true), 1);
        check.due("the second", withCases(1).truly(100, false), 2);
        check.due("the 30th", withCases(29).truly(50, true), 30);
        check.due("the 31st", withCases(30).truly(50, true), FULL);
        for (int v : new int[] {-1, 101, Check.LOW, Check.HIGH}) {
            check.due("BAD", new WasItOut().truly(v, true), BAD);
            check.due("of both the first", withCases(30).truly(v, false), BAD);
        }
        WasItOut x = withCases(2);
        x.truly(101, true);
        check.due("BAD is not counted", x.truly(50, true), 3);
    }

    private void bestSure() {
        check.promise(31, "BEST SURE (what = 0), WRONG ones (1), ones that can't be told (2). BAD.");
        WasItOut x = new WasItOut();
        x.truly(60, false);
        x.truly(100, false);
        x.truly(55, true);
        check.due("BEST SURE", x.bestSure(0), 61);
        check.due("WRONG ones", x.bestSure(1), 1);
        check.due("ones that can't be told", x.bestSure(2), 2);
        check.bounds("bestSure", 0, 2, BAD, what -> new WasItOut().bestSure(what));
        check.bounds("bestSure", 0, 2, BAD, what -> withCases(30).bestSure(what));
    }

    private void keep() {
        check.promise(32, "KEPT: how many. FULL.");
        WasItOut x = new WasItOut();
        check.due("one", x.keep(), 1);
        check.due("two", x.keep(), 2);
        check.due("three", x.keep(), FULL);
        x.ball(0, 9);
        check.due("still full", x.keep(), FULL);
        check.due("count(5)", x.count(5), 2);
        check.due("THE BALL stays", x.at(0, 0, 0), 9);
        x.back();
        check.due("FULL kept nothing", x.at(0, 0, 0), 0);
        x.ball(0, 5);
        check.due("two again", x.keep(), 2);
        x.ball(0, 6);
        x.back();
        check.due("the new one", x.at(0, 0, 0), 5);
    }

    private void back() {
        check.promise(33, "As KEPT last: how many are left. NO.");
        check.due("none", new WasItOut().back(), NO);
        WasItOut x = new WasItOut();
        x.ball(0, 1);
        check.due("none", x.back(), NO);
        check.due("THE BALL stays", x.at(0, 0, 0), 1);
        x.keep();
        x.ball(0, 2);
        x.keep();
        x.ball(0, 3);
        check.due("one is left", x.back(), 1);
        check.due("as KEPT last", x.at(0, 0, 0), 2);
        check.due("none is left", x.back(), 0);
        check.due("as KEPT first", x.at(0, 0, 0), 1);
        check.due("none", x.back(), NO);
        check.due("THE BALL stays", x.at(0, 0, 0), 1);
        x.ball(0, 4);
        check.due("kept anew", x.keep(), 1);
        x.ball(0, 5);
        check.due("and back", x.back(), 0);
        check.due("as KEPT last", x.at(0, 0, 0), 4);
    }

    private void count() {
        check.promise(34, "How many: 0 bytes of THE TEXT, 1 ITEMS LAID, 2 SIGHTS, 3 calls, 4 CASES, 5 KEPT. BAD.");
        int[] most = {200, 9, 30, 60, 30, 2};
        int[] some = {15, 9, 5, 9, 5, 1};
        for (int i = 0; i < 6; i++) {
            check.due("count(" + i + ") at first", new WasItOut().count(i), 0);
            check.due("count(" + i + ") of some", Make.busy().count(i), some[i]);
            check.due("count(" + i + ") when full", Make.full().count(i), most[i]);
        }
        check.due("the most ITEMS", Make.laid(Make.longest()).count(1), 66);
        check.bounds("count", 0, 5, BAD, what -> new WasItOut().count(what));
        check.bounds("count", 0, 5, BAD, what -> Make.full().count(what));
    }
}
