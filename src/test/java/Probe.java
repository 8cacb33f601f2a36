import java.util.ArrayList;
import java.util.List;

/** All that an object can be asked for, a row an answer; the object is used up by it. */
final class Probe {
    private final WasItOut x;
    private final List<String> rows = new ArrayList<>();

    private Probe(WasItOut x) {
        this.x = x;
    }

    static List<String> of(WasItOut x) {
        Probe p = new Probe(x);
        p.laws();
        p.flights();
        p.sights();
        p.judges();
        p.worlds();
        p.text();
        return p.rows;
    }

    private void row(String what, long answer) {
        rows.add(what + " = " + answer);
    }

    private void laws() {
        for (int i = 0; i < 6; i++) {
            row("count " + i, x.count(i));
            row("law " + i, x.law(i));
        }
        for (int place : new int[] {-100000, -50, 0, 2, 40, 100000}) {
            row("line " + place, x.line(place));
        }
        row("fault", x.fault());
    }

    private void flights() {
        for (int i = 0; i < 6; i++) {
            row("begins " + i, x.at(94, 0, i));
            row("first ends " + i, x.at(0, 600, i));
            row("last ends " + i, x.at(188, 600, i));
        }
        for (int i = 0; i < 5; i++) {
            row("touch " + i, x.touch(94, i));
            row("last touch " + i, x.touch(188, i));
        }
        row("apart", x.apart(0, 188));
    }

    private void sights() {
        for (int i = -1; i < 30; i++) {
            row("fits " + i, x.fits(94, i));
            row("last fits " + i, x.fits(188, i));
            row("whose " + i, x.whose(i));
        }
        for (int i = -1; i < 4; i++) {
            row("fitting " + i, x.fitting(i));
        }
        for (int i = 0; i < 3; i++) {
            row("odds " + i, x.odds(i));
        }
        for (int i = 0; i < 2; i++) {
            row("shown " + i, x.shown(i));
            row("would " + i, x.would(i));
        }
        row("moved", x.moved());
        row("left out", x.leave(0));
        row("fitting then", x.fitting(-1));
        row("shown then", x.shown(1));
    }

    private void judges() {
        for (int i = 0; i < 4; i++) {
            row("lean " + i, x.lean(i / 2, i % 2));
            row("worth " + i, x.worth(8, 2 * i, 0));
            row("worth below " + i, x.worth(8, 2 * i, 1));
            row("when " + i, x.when(3, 1, i));
        }
        for (int i = 0; i < 8; i++) {
            row("sort " + i, x.sort(i % 4, i / 4, 0));
        }
        for (int i = 0; i < 3; i++) {
            row("best sure " + i, x.bestSure(i));
        }
    }

    /** The present world is dropped for each kept one, from the last. */
    private void worlds() {
        for (int i = 0; i < 3; i++) {
            row("back", x.back());
            row("sights", x.count(2));
            row("left out", x.leave(15));
            row("fitting", x.fitting(-1));
            for (int what = 0; what < 6; what++) {
                row("ball " + what, x.ball(what, 0));
            }
        }
        for (int i = 0; i < 12; i++) {
            row("camera " + i, x.camera(i / 3, i % 3, 0));
        }
    }

    private void text() {
        row("lay", x.lay());
        for (int i = 0; i < 6; i++) {
            row("law " + i, x.law(i));
        }
        row("line", x.line(100000));
        row("would", x.would(1));
        row("wipe", x.wipe());
        row("fault", x.fault());
    }
}
