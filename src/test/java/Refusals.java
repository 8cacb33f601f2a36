import java.util.ArrayList;
import java.util.List;
import java.util.function.Supplier;
import java.util.function.ToLongFunction;

/** Calls that are refused: what they answer, and that nothing changes, seen from a twin that was not asked. */
final class Refusals {
    private static final int BAD = Check.BAD, NO = Check.NO, FULL = Check.FULL, NONE = Check.NONE;
    private static final int LOW = Check.LOW, HIGH = Check.HIGH;
    /** As many as leave an object that was filled and is asked for all within its 512 calls. */
    private static final int MANY = 50;

    private record Refused(String call, long answer, ToLongFunction<WasItOut> on) { }

    private final Check check;
    private List<Refused> calls = new ArrayList<>();

    private Refusals(Check check) {
        this.check = check;
    }

    static void run(Check check) {
        Refusals r = new Refusals(check);
        r.bad();
        r.no();
        r.none();
        r.full();
        r.ofSeveral();
        r.neverThrows();
    }

    private void add(String call, long answer, ToLongFunction<WasItOut> on) {
        calls.add(new Refused(call, answer, on));
    }

    /** Each of the calls alone, then many of them on one object. */
    private void nothingChanges(String state, Supplier<WasItOut> make) {
        List<String> due = Probe.of(make.get());
        for (Refused r : calls) {
            WasItOut x = make.get();
            check.due(state + ", " + r.call, r.on.applyAsLong(x), r.answer);
            same(state + ", behind " + r.call, Probe.of(x), due);
        }
        for (int from = 0; from < calls.size(); from += MANY) {
            WasItOut x = make.get();
            for (Refused r : calls.subList(from, Math.min(calls.size(), from + MANY))) {
                check.due(state + ", among many, " + r.call, r.on.applyAsLong(x), r.answer);
            }
            same(state + ", behind many", Probe.of(x), due);
        }
    }

    private void same(String when, List<String> got, List<String> due) {
        for (int i = 0; i < due.size() && i < got.size(); i++) {
            check.due(when + ": " + got.get(i) + " was " + due.get(i), got.get(i).equals(due.get(i)));
        }
        check.due(when + ": as many answers", got.size(), due.size());
    }

    private void bad() {
        check.term("BAD: a number is none that is told.");
        textIsBad();
        sightsAreBad();
        questionsAreBad();
        judgesAreBad();
        nothingChanges("new", WasItOut::new);
        nothingChanges("busy", Make::busy);
        nothingChanges("full", Make::full);
        nothingChanges("barren", Make::barren);
        calls = new ArrayList<>();
    }

    private void textIsBad() {
        for (int n : new int[] {0, 9, -1, LOW, HIGH}) {
            add("write " + n, BAD, x -> x.write(n, Make.bytes("g9;")));
        }
        for (int what : new int[] {-1, 6, LOW, HIGH}) {
            add("law " + what, BAD, x -> x.law(what));
            add("ball of " + what, -1000000, x -> x.ball(what, 7));
        }
        for (int place : new int[] {-100001, 100001, LOW, HIGH}) {
            add("line " + place, -100000, x -> x.line(place));
        }
        int[] below = {-100001, -100001, -1, -2001, -2001, -2001};
        int[] above = {100001, 100001, 100001, 2001, 2001, 2001};
        for (int i = 0; i < 6; i++) {
            int what = i;
            for (int v : new int[] {below[i], above[i], LOW, HIGH}) {
                add("ball " + i + " at " + v, -1000000, x -> x.ball(what, v));
            }
        }
        for (int[] b : new int[][] {{-1, 0, 0}, {189, 0, 0}, {0, -1, 0}, {0, 601, 0}, {0, 0, -1}, {0, 0, 6}}) {
            add("at " + b[0] + " " + b[1] + " " + b[2], -2000000000, x -> x.at(b[0], b[1], b[2]));
        }
        for (int[] b : new int[][] {{-1, 0}, {189, 0}, {0, -1}, {0, 5}}) {
            add("touch " + b[0] + " " + b[1], -2000000000, x -> x.touch(b[0], b[1]));
        }
    }

    private void sightsAreBad() {
        for (int[] b : new int[][] {{-1, 0, 7}, {4, 0, 7}, {0, -1, 7}, {0, 3, 7}, {3, 2, -11}, {0, 0, 11}}) {
            add("camera " + b[0] + " " + b[1] + " " + b[2], -100, x -> x.camera(b[0], b[1], b[2]));
        }
        for (int[] b : new int[][] {{-1, 0, 0, 0}, {4, 0, 0, 0}, {0, -1, 0, 0}, {0, 601, 0, 0}, {0, 0, -1000001, 0},
            {0, 0, 1000001, 0}, {0, 0, 0, -1}, {0, 0, 0, 1001}}) {
            add("blur " + b[0] + " " + b[1] + " " + b[2] + " " + b[3], BAD, x -> x.blur(b[0], b[1], b[2], b[3]));
        }
        for (int[] b : new int[][] {{-100001, 0, 0}, {100001, 0, 0}, {0, -100001, 0}, {0, 100001, 0}, {0, 0, -1},
            {0, 0, 1001}}) {
            add("mark " + b[0] + " " + b[1] + " " + b[2], BAD, x -> x.mark(b[0], b[1], b[2]));
        }
        for (int[] b : new int[][] {{-100001, 0, 0, 0, 1}, {100001, 0, 0, 0, 1}, {0, -100001, 0, 0, 1}, {0, 100001, 0, 0, 1},
            {0, 0, -1, 0, 1}, {0, 0, 601, 0, 1}, {0, 0, 0, -1, 1}, {0, 0, 0, 1001, 1}, {0, 0, 0, 0, 0}, {0, 0, 0, 0, 501}}) {
            add("heard " + b[0] + " " + b[1] + " " + b[2] + " " + b[3] + " " + b[4], BAD,
                x -> x.heard(b[0], b[1], b[2], b[3], b[4]));
        }
        for (int v : new int[] {-1, 16, LOW, HIGH}) {
            add("leave " + v, BAD, x -> x.leave(v));
        }
    }

    private void questionsAreBad() {
        for (int[] b : new int[][] {{-1, -1}, {189, -1}, {0, -2}, {0, 30}, {0, LOW}, {0, HIGH}}) {
            add("fits " + b[0] + " " + b[1], BAD, x -> x.fits(b[0], b[1]));
        }
        for (int v : new int[] {-2, LOW}) {
            add("fitting " + v, BAD, x -> x.fitting(v));
        }
        for (int v : new int[] {-1, 3, LOW, HIGH}) {
            add("odds " + v, BAD, x -> x.odds(v));
            add("best sure " + v, BAD, x -> x.bestSure(v));
        }
        for (int v : new int[] {-1, 2, LOW, HIGH}) {
            add("shown " + v, BAD, x -> x.shown(v));
            add("would " + v, BAD, x -> x.would(v));
        }
        for (int v : new int[] {-1, 189, LOW, HIGH}) {
            add("apart of " + v, BAD, x -> x.apart(v, 0));
            add("apart from " + v, BAD, x -> x.apart(0, v));
        }
        for (int v : new int[] {-1, 30, LOW, HIGH}) {
            add("whose " + v, BAD, x -> x.whose(v));
        }
        for (int v : new int[] {-1, 6, LOW, HIGH}) {
            add("count " + v, BAD, x -> x.count(v));
        }
    }

    private void judgesAreBad() {
        for (int[] b : new int[][] {{-21, 0}, {21, 0}, {0, -1}, {0, 2}}) {
            add("call " + b[0] + " " + b[1], BAD, x -> x.call(b[0], b[1], true));
        }
        for (int[] b : new int[][] {{-1, 0}, {2, 0}, {0, -1}, {0, 2}}) {
            add("lean " + b[0] + " " + b[1], -100, x -> x.lean(b[0], b[1]));
        }
        for (int[] b : new int[][] {{-1, 0, 7}, {4, 0, 7}, {0, -1, 7}, {0, 2, 7}, {3, 0, -1}, {3, 1, 11}}) {
            add("sort " + b[0] + " " + b[1] + " " + b[2], BAD, x -> x.sort(b[0], b[1], b[2]));
        }
        for (int[] b : new int[][] {{-1, 0, 0}, {9, 0, 0}, {0, -1, 0}, {0, 9, 0}, {0, 0, -1}, {0, 0, 2}}) {
            add("worth " + b[0] + " " + b[1] + " " + b[2], BAD, x -> x.worth(b[0], b[1], b[2]));
        }
        for (int[] b : new int[][] {{-1, 0, 0}, {8, 0, 0}, {0, -1, 0}, {0, 9, 0}, {0, 0, -1}, {0, 0, 4}}) {
            add("when " + b[0] + " " + b[1] + " " + b[2], BAD, x -> x.when(b[0], b[1], b[2]));
        }
        for (int v : new int[] {-1, 101, LOW, HIGH}) {
            add("truly " + v, BAD, x -> x.truly(v, false));
        }
    }

    private void no() {
        check.term("NO: not as things stand.");
        add("would 0", NO, x -> x.would(0));
        add("would 1", NO, x -> x.would(1));
        add("back", NO, WasItOut::back);
        nothingChanges("new", WasItOut::new);
        add("lay", NO, WasItOut::lay);
        add("worth", NO, x -> x.worth(8, 8, 0));
        add("worth", NO, x -> x.worth(0, 0, 1));
        add("when", NO, x -> x.when(7, 8, 3));
        add("when", NO, x -> x.when(0, 0, 0));
        nothingChanges("barren", Make::barren);
        calls = new ArrayList<>();
        check.due("as things stand otherwise: would", Make.busy().would(1) >= 0);
        check.due("as things stand otherwise: back", Make.busy().back(), 0);
        check.due("as things stand otherwise: lay", Make.busy().lay(), 4);
        check.due("as things stand otherwise: worth", Make.busy().worth(8, 8, 0) > 0);
        check.due("as things stand otherwise: when", Make.busy().when(0, 1, 0), 1);
    }

    private void none() {
        check.term("NONE: there is none.");
        add("fault", NONE, WasItOut::fault);
        add("fitting 189", NONE, x -> x.fitting(189));
        add("fitting, the farthest", NONE, x -> x.fitting(HIGH));
        nothingChanges("new", WasItOut::new);
        nothingChanges("busy", Make::busy);
        nothingChanges("full", Make::full);
        calls = new ArrayList<>();
        for (int i = 0; i < 5; i++) {
            int what = i;
            add("touch " + i, -2000000004, x -> x.touch(188, what));
        }
        add("fitting 0", NONE, x -> x.fitting(0));
        add("odds 2", NONE, x -> x.odds(2));
        add("apart", NONE, x -> x.apart(0, 188));
        add("moved", NONE, WasItOut::moved);
        nothingChanges("barren", Make::barren);
        calls = new ArrayList<>();
    }

    private void full() {
        check.term("FULL.");
        for (int i = 1; i <= 8; i++) {
            int n = i;
            add("write " + i, FULL, x -> x.write(n, Make.bytes("g2;g3;g4")));
        }
        add("blur", FULL, x -> x.blur(1, 2, 3, 4));
        add("mark", FULL, x -> x.mark(1, 2, 3));
        add("heard", FULL, x -> x.heard(1, 2, 3, 4, 5));
        add("call", FULL, x -> x.call(-20, 0, true));
        add("call of the other side", FULL, x -> x.call(20, 1, false));
        add("truly", FULL, x -> x.truly(100, false));
        add("truly in", FULL, x -> x.truly(0, true));
        add("keep", FULL, WasItOut::keep);
        nothingChanges("full", Make::full);
        calls = new ArrayList<>();
        WasItOut x = Make.busy();
        check.due("not full: write", x.write(1, ';'), 16);
        check.due("not full: blur", x.blur(1, 2, 3, 4), 5);
        check.due("not full: call", x.call(1, 1, true), 10);
        check.due("not full: truly", x.truly(1, true), 6);
        check.due("not full: keep", x.keep(), 2);
    }

    private void ofSeveral() {
        check.term("Of several the first; nothing changes then.");
        add("write, BAD and FULL", BAD, x -> x.write(9, 0));
        add("blur, BAD and FULL", BAD, x -> x.blur(4, 0, 0, 0));
        add("mark, BAD and FULL", BAD, x -> x.mark(0, 0, 1001));
        add("heard, BAD and FULL", BAD, x -> x.heard(0, 0, 0, 0, 501));
        add("call, BAD and FULL", BAD, x -> x.call(21, 0, true));
        add("truly, BAD and FULL", BAD, x -> x.truly(101, true));
        nothingChanges("full", Make::full);
        calls = new ArrayList<>();
        add("would, BAD and NO", BAD, x -> x.would(2));
        add("worth, BAD and NO", BAD, x -> x.worth(9, 0, 0));
        add("when, BAD and NO", BAD, x -> x.when(8, 0, 0));
        add("touch, BAD and NONE", -2000000000, x -> x.touch(0, 5));
        add("fitting, BAD and NONE", BAD, x -> x.fitting(-2));
        add("odds, BAD and NONE", BAD, x -> x.odds(3));
        add("apart, BAD and NONE", BAD, x -> x.apart(0, 189));
        add("would, NO though none fits", NO, x -> x.would(1));
        nothingChanges("barren", Make::barren);
        calls = new ArrayList<>();
    }

    /** Numbers that are far from all that is told, in every place: a call that throws ends the test. */
    private void neverThrows() {
        int[] odd = {LOW, LOW + 1, -1, 0, 1, HIGH - 1, HIGH};
        for (int a : odd) {
            for (int b : odd) {
                for (int c : odd) {
                    wild(Make.full(), a, b, c);
                    wild(Make.barren(), a, b, c);
                }
            }
        }
    }

    private void wild(WasItOut x, int a, int b, int c) {
        x.write(a, (long) b * c);
        x.law(a);
        x.line(a);
        x.at(a, b, c);
        x.touch(a, b);
        x.fits(a, b);
        x.fitting(a);
        x.odds(a);
        x.shown(a);
        x.apart(a, b);
        x.moved();
        x.whose(a);
        x.would(a);
        x.lean(a, b);
        x.worth(a, b, c);
        x.when(a, b, c);
        x.bestSure(a);
        x.count(a);
        x.noSights();
        x.blur(a, b, c, b);
        x.mark(a, b, c);
        x.heard(a, b, c, a, c);
        x.camera(a, b, c);
        x.ball(a, b);
        x.leave(a);
        x.call(a, b, c > 0);
        x.sort(a, b, c);
        x.truly(a, b > 0);
        x.keep();
        x.back();
        x.lay();
        check.due("an answer", x.fitting(-1) >= 0);
    }
}
