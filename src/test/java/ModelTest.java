import java.nio.charset.StandardCharsets;
import java.util.ArrayList;
import java.util.List;
import java.util.Random;
import java.util.function.ToLongFunction;

/** Runs of drawn calls (the draw is always the same) on WasItOut and on the plain Model: both must answer alike. */
public final class ModelTest {
    private static final int RUNS = 400;
    private static final int CALLS = 300;
    private static final int[] ODD = {Integer.MIN_VALUE, Integer.MIN_VALUE + 1, -1000001, -100001, -2001, -21, -11, -2,
        -1, 0, 1, 2, 3, 4, 5, 6, 7, 8, 9, 10, 11, 15, 16, 20, 21, 29, 30, 31, 50, 51, 100, 101, 188, 189, 500, 501, 600,
        601, 1000, 1001, 2000, 2001, 100000, 100001, 1000000, 1000001, Integer.MAX_VALUE};

    private final Random dice;
    private final WasItOut real = new WasItOut();
    private final Model model = new Model();
    private final List<String> told = new ArrayList<>();
    private final boolean ofJudges;
    private int trueCurve;
    private int calls;

    private ModelTest(long seed) {
        dice = new Random(seed);
        ofJudges = seed % 4 == 3;
        trueCurve = draw(0, 188);
    }

    public static void main(String[] args) {
        int wrong = 0;
        for (int seed = 0; seed < RUNS && wrong < 5; seed++) {
            ModelTest run = new ModelTest(seed);
            if (!run.goesRight()) {
                wrong++;
                System.out.println("run " + seed + ":");
                run.told.forEach(row -> System.out.println("  " + row));
            }
        }
        System.out.println(wrong == 0 ? RUNS + " drawn runs are as the model's" : wrong + " drawn runs differ");
        if (wrong != 0) {
            System.exit(1);
        }
    }

    private boolean goesRight() {
        boolean right = ofJudges || begins();
        while (right && calls < CALLS) {
            right = step();
        }
        return right;
    }

    /** A law, a ball in the air and cameras, so that most of what follows is about something. */
    private boolean begins() {
        boolean right = text() && text();
        int[] low = {-600, -40, 5, -5, -12, -15};
        int[] high = {0, 40, 300, 60, 12, 15};
        for (int i = 0; i < 6 && right; i++) {
            right = ball(i, draw(low[i], high[i]));
        }
        for (int i = 0; i < 12 && right; i++) {
            right = lens(i / 3, i % 3, draw(-10, 10));
        }
        return right;
    }

    private boolean same(String call, ToLongFunction<WasItOut> ofReal, ToLongFunction<Model> ofModel) {
        calls++;
        long got = ofReal.applyAsLong(real);
        long due = ofModel.applyAsLong(model);
        told.add(call + " answered " + got + (got == due ? "" : ", due is " + due));
        return got == due;
    }

    private int draw(int low, int high) {
        return low + dice.nextInt(high - low + 1);
    }

    /** Mostly between the bounds, at times on or just beyond one, seldom anything. */
    private int near(int low, int high) {
        int way = dice.nextInt(40);
        if (way == 0) {
            return ODD[dice.nextInt(ODD.length)];
        }
        if (way == 1) {
            return dice.nextBoolean() ? low - 1 : high + 1;
        }
        if (way < 5) {
            return dice.nextBoolean() ? low : high;
        }
        return draw(low, high);
    }

    private boolean step() {
        int way = dice.nextInt(100);
        if (ofJudges && way < 80) {
            return judges();
        }
        if (way < 3) {
            return text();
        }
        if (way < 6) {
            return balls();
        }
        if (way < 26) {
            return sights();
        }
        if (way < 28) {
            return judges();
        }
        if (way < 34) {
            return worlds();
        }
        return way < 50 ? flights() : questions();
    }

    private String number(int low, int high) {
        int v = dice.nextInt(40) == 0 ? (dice.nextBoolean() ? low - 1 : high + 1) : draw(low, high);
        String figures = String.valueOf(v);
        if (dice.nextInt(50) == 0) {
            figures = new String[] {"-0", "", "-", "00", "007", "00001", "12345", "-01", "+1", "1 "}[draw(0, 9)];
        }
        return figures;
    }

    private String item() {
        switch (dice.nextInt(11)) {
            case 0:
                return "a" + number(0, dice.nextBoolean() ? 500 : 40) + ";";
            case 1:
                return "g" + number(0, dice.nextBoolean() ? 100 : 8) + ";";
            case 2:
                return "b" + number(0, 1000) + ";";
            case 3:
                return "r" + number(0, 1000) + ";";
            case 4:
                return "q" + number(0, 100) + ";";
            case 5:
                return "t" + number(51, 100) + ";";
            case 6:
                return "k" + number(-9999, 9999) + "," + number(0, 9999) + "," + number(0, 9999) + ";";
            case 7:
                return "k" + number(-300, 300) + "," + number(0, 300) + "," + number(0, 900) + ";";
            case 8:
                return "l" + number(-9999, 9999) + "," + number(-9999, 9999) + ";";
            default:
                return "l" + number(-20, 20) + "," + number(-50, 50) + ";";
        }
    }

    private String spoilt(String s) {
        if (dice.nextInt(4) != 0 || s.isEmpty()) {
            return s;
        }
        int at = dice.nextInt(s.length());
        char other = "agbrqtlkxA;,-0 \u00ff".charAt(dice.nextInt(16));
        switch (dice.nextInt(3)) {
            case 0:
                return s.substring(0, at) + s.substring(at + 1);
            case 1:
                return s.substring(0, at) + other + s.substring(at);
            default:
                return s.substring(0, at) + other + s.substring(at + 1);
        }
    }

    private boolean text() {
        boolean right = true;
        if (dice.nextInt(3) > 0) {
            right = same("wipe()", WasItOut::wipe, Model::wipe);
        }
        StringBuilder s = new StringBuilder();
        if (dice.nextBoolean()) {
            s.append("k").append(draw(-300, 300)).append(",").append(draw(0, 300)).append(",900;");
        }
        int many = dice.nextInt(dice.nextInt(6) == 0 ? 40 : 8);
        for (int i = 0; i < many; i++) {
            s.append(item());
        }
        byte[] bytes = spoilt(s.toString()).getBytes(StandardCharsets.ISO_8859_1);
        for (int from = 0; right && from < bytes.length;) {
            int n = Math.min(draw(1, 8), bytes.length - from);
            long v = dice.nextBoolean() ? 0 : dice.nextLong();
            for (int i = 0; i < n; i++) {
                v = v << 8 | bytes[from + i] & 255;
            }
            right = write(n, v);
            from += n;
        }
        if (dice.nextInt(20) == 0) {
            right = right && write(near(1, 8), dice.nextLong());
        }
        return right && same("fault()", WasItOut::fault, Model::fault) && same("lay()", WasItOut::lay, Model::lay);
    }

    private boolean write(int n, long v) {
        return same("write(" + n + ", " + v + ")", x -> x.write(n, v), x -> x.write(n, v));
    }

    private boolean balls() {
        int what = near(0, 5);
        int[] wide = {100000, 100000, 100000, 2000, 2000, 2000};
        int[] usual = {400, 300, 300, 60, 30, 40};
        int most = what < 0 || what > 5 ? 100 : dice.nextInt(4) == 0 ? wide[what] : usual[what];
        return ball(what, near(what == 2 ? 0 : -most, most));
    }

    private boolean ball(int what, int v) {
        return same("ball(" + what + ", " + v + ")", x -> x.ball(what, v), x -> x.ball(what, v));
    }

    private boolean sights() {
        switch (dice.nextInt(14)) {
            case 0:
                return lens(near(0, 3), near(0, 2), near(-10, 10));
            case 1:
                trueCurve = draw(0, 188);
                return same("noSights()", WasItOut::noSights, Model::noSights);
            case 2:
            case 3:
                return mark();
            case 4:
            case 5:
                return heard();
            case 6:
            case 7:
                return leave();
            default:
                return blur();
        }
    }

    private boolean lens(int c, int what, int v) {
        return same("camera(" + c + ", " + what + ", " + v + ")", x -> x.camera(c, what, v), x -> x.camera(c, what, v));
    }

    /** Mostly of one curve, so that something often fits; at times of another. */
    private int someCurve() {
        return dice.nextInt(8) == 0 ? draw(0, 188) : trueCurve;
    }

    private boolean blur() {
        int c = near(0, 3);
        int t = dice.nextInt(5) == 0 ? near(0, 600) : near(0, 20);
        boolean wild = dice.nextInt(12) == 0 || c < 0 || c > 3 || t < 0 || t > 600;
        int e = dice.nextInt(12) == 0 ? near(0, 1000) : draw(0, 100);
        int slack = e < 0 || e > 1000 ? 0 : e / 2 + 1;
        int seen = wild ? near(-1000000, 1000000) : model.seen(someCurve(), c, t) + draw(-slack, slack);
        return same("blur(" + c + ", " + t + ", " + seen + ", " + e + ")",
            x -> x.blur(c, t, seen, e), x -> x.blur(c, t, seen, e));
    }

    private int[] place() {
        int curve = someCurve();
        if (dice.nextInt(12) == 0 || model.touch(curve, 0) < 0) {
            return new int[] {near(-100000, 100000), near(-100000, 100000), near(0, 600)};
        }
        return new int[] {model.touch(curve, 1) + draw(-9, 9), model.touch(curve, 2) + draw(-9, 9),
            model.touch(curve, 0)};
    }

    private boolean mark() {
        int[] p = place();
        int e = dice.nextInt(8) == 0 ? near(0, 1000) : draw(5, 80);
        return same("mark(" + p[0] + ", " + p[1] + ", " + e + ")", x -> x.mark(p[0], p[1], e),
            x -> x.mark(p[0], p[1], e));
    }

    private boolean heard() {
        int[] p = place();
        int e = dice.nextInt(8) == 0 ? near(0, 1000) : draw(1, 6);
        int s = dice.nextBoolean() ? near(1, 500) : draw(1, 12);
        int t = p[2] + draw(-1, 4);
        return same("heard(" + p[0] + ", " + p[1] + ", " + t + ", " + e + ", " + s + ")",
            x -> x.heard(p[0], p[1], t, e, s), x -> x.heard(p[0], p[1], t, e, s));
    }

    private boolean leave() {
        int cameras = near(0, 15);
        return same("leave(" + cameras + ")", x -> x.leave(cameras), x -> x.leave(cameras));
    }

    private boolean judges() {
        int way = dice.nextInt(10);
        if (way < 3) {
            int by = near(-20, 20);
            int side = near(0, 1);
            boolean out = dice.nextInt(3) == 0 ? dice.nextBoolean() : by > side * 5 - 2;
            return same("call(" + by + ", " + side + ", " + out + ")", x -> x.call(by, side, out),
                x -> x.call(by, side, out));
        }
        if (way == 3) {
            int side = near(0, 1);
            int what = near(0, 1);
            return same("lean(" + side + ", " + what + ")", x -> x.lean(side, what), x -> x.lean(side, what));
        }
        if (way == 4) {
            int out = near(0, 100);
            boolean was = dice.nextInt(3) == 0 ? dice.nextBoolean() : out > 50;
            return same("truly(" + out + ", " + was + ")", x -> x.truly(out, was), x -> x.truly(out, was));
        }
        if (way == 5) {
            int what = near(0, 2);
            return same("bestSure(" + what + ")", x -> x.bestSure(what), x -> x.bestSure(what));
        }
        if (way == 6) {
            return dice.nextInt(3) == 0 ? sorts() : worth();
        }
        return way < 9 ? worth() : when();
    }

    /** Four shares that mostly are ten together. */
    private boolean sorts() {
        int[] share = {0, 0, 0, 0};
        for (int i = 0; i < 10; i++) {
            share[dice.nextInt(4)]++;
        }
        boolean right = true;
        for (int s = 0; s < 4 && right; s++) {
            right = sort(s, 0, share[s]) && sort(s, 1, near(0, 10));
        }
        return right && (dice.nextInt(4) > 0 || sort(near(0, 3), near(0, 1), near(0, 10)));
    }

    private boolean sort(int s, int what, int v) {
        return same("sort(" + s + ", " + what + ", " + v + ")", x -> x.sort(s, what, v), x -> x.sort(s, what, v));
    }

    private boolean worth() {
        int n = near(0, 8);
        int k = near(0, 8);
        int part = near(0, 1);
        return same("worth(" + n + ", " + k + ", " + part + ")", x -> x.worth(n, k, part), x -> x.worth(n, k, part));
    }

    private boolean when() {
        int n = near(0, 7);
        int k = near(0, 8);
        int s = near(0, 3);
        return same("when(" + n + ", " + k + ", " + s + ")", x -> x.when(n, k, s), x -> x.when(n, k, s));
    }

    private boolean worlds() {
        switch (dice.nextInt(4)) {
            case 0:
                return same("keep()", WasItOut::keep, Model::keep);
            case 1:
                return same("back()", WasItOut::back, Model::back);
            default:
                int what = near(0, 5);
                return same("count(" + what + ")", x -> x.count(what), x -> x.count(what));
        }
    }

    private boolean flights() {
        int what = near(0, 5);
        switch (dice.nextInt(5)) {
            case 0:
                return same("law(" + what + ")", x -> x.law(what), x -> x.law(what));
            case 1:
                int place = dice.nextBoolean() ? near(-100000, 100000) : near(-21, 21);
                return same("line(" + place + ")", x -> x.line(place), x -> x.line(place));
            case 2:
                int t = near(0, 600);
                int moving = near(0, 188);
                return same("at(" + moving + ", " + t + ", " + what + ")", x -> x.at(moving, t, what),
                    x -> x.at(moving, t, what));
            case 3:
                int a = near(0, 188);
                int b = near(0, 188);
                return same("apart(" + a + ", " + b + ")", x -> x.apart(a, b), x -> x.apart(a, b));
            default:
                int part = near(0, 4);
                int curve = near(0, 188);
                return same("touch(" + curve + ", " + part + ")", x -> x.touch(curve, part), x -> x.touch(curve, part));
        }
    }

    /** Looks a few times for a sight that whose is not BAD of. */
    private int otherThanBlur() {
        int sight = near(0, Math.max(0, model.count(2) - 1));
        for (int i = 0; i < 4 && model.whose(sight) == Model.BAD; i++) {
            sight = near(0, Math.max(0, model.count(2) - 1));
        }
        return sight;
    }

    private boolean questions() {
        int what = near(0, 2);
        switch (dice.nextInt(8)) {
            case 0:
                int curve = near(0, 188);
                int i = near(-1, Math.max(0, model.count(2) - 1));
                return same("fits(" + curve + ", " + i + ")", x -> x.fits(curve, i), x -> x.fits(curve, i));
            case 1:
                int place = dice.nextBoolean() ? near(-1, 188) : near(-1, Math.max(0, model.fitting(-1)));
                return same("fitting(" + place + ")", x -> x.fitting(place), x -> x.fitting(place));
            case 2:
                return same("fitting(-1)", x -> x.fitting(-1), x -> x.fitting(-1));
            case 3:
                return same("odds(" + what + ")", x -> x.odds(what), x -> x.odds(what));
            case 4:
                return same("shown(" + what + ")", x -> x.shown(what), x -> x.shown(what));
            case 5:
                return same("moved()", WasItOut::moved, Model::moved);
            case 6:
                int sight = otherThanBlur();
                return same("whose(" + sight + ")", x -> x.whose(sight), x -> x.whose(sight));
            default:
                int part = near(0, 1);
                return same("would(" + part + ")", x -> x.would(part), x -> x.would(part));
        }
    }
}
