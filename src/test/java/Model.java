import java.math.BigInteger;
import java.util.ArrayList;
import java.util.HashMap;
import java.util.List;
import java.util.Map;
import java.util.regex.Matcher;
import java.util.regex.Pattern;

/**
 * The document once more, in the slowest and plainest way: every curve goes every tick for itself,
 * the text is read by patterns, averages are fractions of any size. It shares nothing with WasItOut.
 */
final class Model {
    static final int BAD = -1, NO = -2, FULL = -3, NONE = -4;
    private static final Pattern ITEM = Pattern.compile(
        "([agbrqt])(NUM);|(l)(NUM),(NUM);|(k)(NUM),(NUM),(NUM);".replace("NUM", "-?[0-9]{1,4}"));
    private static final String ONES = "agbrqt";
    private static final int[][] ONE_BOUNDS = {{0, 500}, {0, 100}, {0, 1000}, {0, 1000}, {0, 100}, {51, 100}};

    record Sight(char kind, int a, int b, int t, int e, int s) { }

    record Touch(int t, int x, int y, int half) { }

    record World(int[] ball, List<Sight> sights, int left) { }

    record Call(int by, int side, boolean out) { }

    record Case(int out, boolean was) { }

    /** above / below, in lowest terms. */
    record Frac(BigInteger above, BigInteger below) {
        static Frac of(long a, long b) {
            return make(BigInteger.valueOf(a), BigInteger.valueOf(b));
        }

        static Frac make(BigInteger a, BigInteger b) {
            BigInteger g = a.gcd(b);
            return new Frac(a.divide(g), b.divide(g));
        }

        Frac plus(Frac o) {
            return make(above.multiply(o.below).add(o.above.multiply(below)), below.multiply(o.below));
        }

        Frac times(Frac o) {
            return make(above.multiply(o.above), below.multiply(o.below));
        }

        boolean isMoreThan(Frac o) {
            return above.multiply(o.below).compareTo(o.above.multiply(below)) > 0;
        }
    }

    private final StringBuilder text = new StringBuilder();
    private String laid = "";
    private int[] ball = new int[6];
    private final int[][] lens = new int[4][3];
    private List<Sight> sights = new ArrayList<>();
    private int left;
    private final List<Call> calls = new ArrayList<>();
    private final int[] p = {10, 0, 0, 0};
    private final int[] r = new int[4];
    private final List<Case> cases = new ArrayList<>();
    private final List<World> kept = new ArrayList<>();

    private int[][][] path; // curve, tick, what
    private Touch[] touches;
    private final Map<Integer, Frac> worths = new HashMap<>();

    private static boolean in(int v, int low, int high) {
        return low <= v && v <= high;
    }

    int write(int n, long v) {
        if (!in(n, 1, 8)) {
            return BAD;
        }
        if (text.length() + n > 200) {
            return FULL;
        }
        String hex = String.format("%016x", v).substring(16 - 2 * n);
        for (int i = 0; i < hex.length(); i += 2) {
            text.append((char) Integer.parseInt(hex.substring(i, i + 2), 16));
        }
        return text.length();
    }

    int wipe() {
        int was = text.length();
        text.setLength(0);
        return was;
    }

    private static int[] numbers(Matcher m) {
        List<Integer> found = new ArrayList<>();
        for (int i = 1; i <= m.groupCount(); i++) {
            String g = m.group(i);
            if (g != null && g.matches("-?[0-9]+")) {
                found.add(Integer.parseInt(g));
            }
        }
        return found.stream().mapToInt(Integer::intValue).toArray();
    }

    private static boolean good(String item, int[] n) {
        char letter = item.charAt(0);
        if (item.matches(".*-0+[,;].*")) {
            return false;
        }
        if (letter == 'l') {
            return in(n[0], -9999, 9999) && in(n[1], -9999, 9999);
        }
        if (letter == 'k') {
            return in(n[0], -9999, 9999) && in(n[1], 0, 9999) && in(n[2], 0, 9999);
        }
        int[] bounds = ONE_BOUNDS[ONES.indexOf(letter)];
        return in(n[0], bounds[0], bounds[1]);
    }

    int fault() {
        Matcher m = ITEM.matcher(text);
        int at = 0;
        while (at < text.length()) {
            m.region(at, text.length());
            if (!m.lookingAt() || !good(m.group(), numbers(m))) {
                return at;
            }
            at = m.end();
        }
        return NONE;
    }

    int lay() {
        if (fault() != NONE) {
            return NO;
        }
        laid = text.toString();
        path = null;
        return items(laid).length;
    }

    private static String[] items(String s) {
        return s.isEmpty() ? new String[0] : s.split(";");
    }

    private static int[] parts(String item) {
        String[] s = item.substring(1).split(",");
        int[] n = new int[s.length];
        for (int i = 0; i < n.length; i++) {
            n[i] = Integer.parseInt(s[i]);
        }
        return n;
    }

    int law(int what) {
        if (!in(what, 0, 5)) {
            return BAD;
        }
        int v = new int[] {0, 1, 500, 1000, 0, 90}[what];
        for (String item : items(laid)) {
            if (item.charAt(0) == ONES.charAt(what)) {
                v = parts(item)[0];
            }
        }
        return v;
    }

    private int paint(int x) {
        int greatest = Integer.MIN_VALUE;
        int y = 0;
        for (String item : items(laid)) {
            if (item.charAt(0) == 'l') {
                int[] n = parts(item);
                if (n[0] <= x && n[0] >= greatest) {
                    greatest = n[0];
                    y = n[1];
                }
            }
        }
        return y;
    }

    private int[] wicket() {
        int[] found = null;
        for (String item : items(laid)) {
            if (item.charAt(0) == 'k') {
                found = parts(item);
            }
        }
        return found;
    }

    int line(int x) {
        return in(x, -100000, 100000) ? paint(x) : -100000;
    }

    int ball(int what, int v) {
        if (!in(what, 0, 5)
            || what < 2 && !in(v, -100000, 100000)
            || what == 2 && !in(v, 0, 100000)
            || what > 2 && !in(v, -2000, 2000)) {
            return -1000000;
        }
        int was = ball[what];
        ball[what] = v;
        path = null;
        return was;
    }

    private void go() {
        if (path != null) {
            return;
        }
        path = new int[189][601][];
        touches = new Touch[189];
        int[] law = new int[6];
        for (int i = 0; i < 6; i++) {
            law[i] = law(i);
        }
        for (int m = -10; m <= 10; m++) {
            for (int s = -4; s <= 4; s++) {
                goCurve(9 * (m + 10) + s + 4, m, s, law);
            }
        }
    }

    private void goCurve(int curve, int m, int spin, int[] law) {
        int[] q = ball.clone();
        q[4] += m;
        path[curve][0] = q.clone();
        for (int t = 1; t <= 600; t++) {
            for (int i = 3; i < 6; i++) {
                q[i] = q[i] - q[i] * law[0] / 1000;
            }
            q[4] += spin;
            q[5] -= law[1];
            for (int i = 0; i < 3; i++) {
                q[i] += q[i + 3];
            }
            if (q[2] <= 0 && q[5] < 0) {
                if (touches[curve] == null) {
                    touches[curve] = new Touch(t, q[0], q[1], law[4] * -q[5] / 10);
                }
                q[2] = 0;
                q[5] = -q[5] * law[2] / 1000;
                q[3] = q[3] * law[3] / 1000;
            }
            path[curve][t] = q.clone();
        }
    }

    int at(int curve, int t, int what) {
        if (!in(curve, 0, 188) || !in(t, 0, 600) || !in(what, 0, 5)) {
            return -2000000000;
        }
        go();
        return path[curve][t][what];
    }

    private boolean out(int curve) {
        Touch h = touches[curve];
        return h != null && h.y - h.half > paint(h.x);
    }

    int touch(int curve, int what) {
        if (!in(curve, 0, 188) || !in(what, 0, 4)) {
            return -2000000000;
        }
        go();
        Touch h = touches[curve];
        if (h == null) {
            return -2000000004;
        }
        return new int[] {h.t, h.x, h.y, h.half, out(curve) ? 1 : 0}[what];
    }

    int camera(int c, int what, int v) {
        if (!in(c, 0, 3) || !in(what, 0, 2) || !in(v, -10, 10)) {
            return -100;
        }
        int was = lens[c][what];
        lens[c][what] = v;
        return was;
    }

    private int add(Sight s) {
        if (sights.size() == 30) {
            return FULL;
        }
        sights.add(s);
        return sights.size() - 1;
    }

    int blur(int c, int t, int n, int e) {
        boolean good = in(c, 0, 3) && in(t, 0, 600) && in(n, -1000000, 1000000) && in(e, 0, 1000);
        return good ? add(new Sight('b', c, n, t, e, 0)) : BAD;
    }

    int mark(int x, int y, int e) {
        boolean good = in(x, -100000, 100000) && in(y, -100000, 100000) && in(e, 0, 1000);
        return good ? add(new Sight('m', x, y, 0, e, 0)) : BAD;
    }

    int heard(int x, int y, int t, int e, int s) {
        boolean good = in(x, -100000, 100000) && in(y, -100000, 100000) && in(t, 0, 600)
            && in(e, 0, 1000) && in(s, 1, 500);
        return good ? add(new Sight('h', x, y, t, e, s)) : BAD;
    }

    int noSights() {
        int were = sights.size();
        sights = new ArrayList<>();
        return were;
    }

    int leave(int cameras) {
        if (!in(cameras, 0, 15)) {
            return BAD;
        }
        int was = left;
        left = cameras;
        return was;
    }

    int seen(int curve, int c, int t) {
        go();
        int[] q = path[curve][t];
        int[] l = lens[c];
        return (l[0] * q[0] + l[1] * q[1] + l[2] * q[2]) / 10;
    }

    private int seenOff(int curve, Sight s) {
        return Math.abs(seen(curve, s.a, s.t) - s.b);
    }

    private boolean fitsOne(int curve, Sight s) {
        go();
        if (s.kind == 'b') {
            return seenOff(curve, s) <= s.e;
        }
        Touch h = touches[curve];
        if (h == null) {
            return false;
        }
        int dx = Math.abs(h.x - s.a);
        int dy = Math.abs(h.y - s.b);
        if (s.kind == 'm') {
            return dx <= s.e && dy <= s.e;
        }
        int far = Math.max(dx, dy);
        int ticks = far / s.s + (far % s.s > 0 ? 1 : 0);
        return Math.abs(h.t + ticks - s.t) <= s.e;
    }

    private static boolean gone(Sight s, int leaving) {
        return s.kind == 'b' && (leaving & 1 << s.a) != 0;
    }

    private boolean fitsAll(int curve, int leaving) {
        return sights.stream().allMatch(s -> gone(s, leaving) || fitsOne(curve, s));
    }

    private List<Integer> fittingOnes(int leaving) {
        List<Integer> found = new ArrayList<>();
        for (int c = 0; c < 189; c++) {
            if (fitsAll(c, leaving)) {
                found.add(c);
            }
        }
        return found;
    }

    int fits(int curve, int i) {
        if (!in(curve, 0, 188) || !in(i, -1, sights.size() - 1)) {
            return BAD;
        }
        return (i < 0 ? fitsAll(curve, left) : fitsOne(curve, sights.get(i))) ? 1 : 0;
    }

    int fitting(int i) {
        if (i < -1) {
            return BAD;
        }
        List<Integer> f = fittingOnes(left);
        if (i == -1) {
            return f.size();
        }
        return i < f.size() ? f.get(i) : NONE;
    }

    int odds(int what) {
        if (!in(what, 0, 2)) {
            return BAD;
        }
        go();
        List<Integer> f = fittingOnes(left);
        int out = 0;
        int in = 0;
        for (int c : f) {
            if (touches[c] != null) {
                if (out(c)) {
                    out++;
                } else {
                    in++;
                }
            }
        }
        if (what < 2) {
            return what == 0 ? out : in;
        }
        if (f.isEmpty()) {
            return NONE;
        }
        int need = law(5) * f.size();
        return 100 * out >= need ? 2 : 100 * in >= need ? 0 : 1;
    }

    int shown(int what) {
        if (!in(what, 0, 1)) {
            return BAD;
        }
        int best = -1;
        int least = Integer.MAX_VALUE;
        for (int c = 0; c < 189; c++) {
            int sum = 0;
            for (Sight s : sights) {
                sum += s.kind == 'b' && !gone(s, left) ? seenOff(c, s) : 0;
            }
            if (sum < least) {
                least = sum;
                best = c;
            }
        }
        return what == 0 ? best : least;
    }

    int apart(int a, int b) {
        if (!in(a, 0, 188) || !in(b, 0, 188)) {
            return BAD;
        }
        go();
        if (touches[a] == null || touches[b] == null) {
            return NONE;
        }
        return Math.max(Math.abs(touches[a].x - touches[b].x), Math.abs(touches[a].y - touches[b].y));
    }

    int moved() {
        int best = NONE;
        for (int more = 0; more < 16; more++) {
            if ((more & left) == 0 && !fittingOnes(left | more).isEmpty()
                && (best == NONE || Integer.bitCount(more) < Integer.bitCount(best))) {
                best = more;
            }
        }
        return best;
    }

    int whose(int sight) {
        if (!in(sight, 0, sights.size() - 1) || sights.get(sight).kind == 'b') {
            return BAD;
        }
        int all = 0;
        int both = 0;
        for (int c = 0; c < 189; c++) {
            boolean blurs = true;
            for (Sight s : sights) {
                blurs &= s.kind != 'b' || gone(s, left) || fitsOne(c, s);
            }
            if (blurs) {
                all++;
                both += fitsOne(c, sights.get(sight)) ? 1 : 0;
            }
        }
        return all > 0 && all == both ? 2 : both > 0 ? 1 : 0;
    }

    int would(int what) {
        if (!in(what, 0, 1)) {
            return BAD;
        }
        int[] k = wicket();
        if (k == null) {
            return NO;
        }
        go();
        List<Integer> f = fittingOnes(left);
        int hit = 0;
        for (int c : f) {
            if (path[c][0][0] >= k[0]) {
                continue;
            }
            for (int t = 1; t <= 600; t++) {
                int[] q = path[c][t];
                if (q[0] >= k[0]) {
                    hit += Math.abs(q[1]) <= k[1] && q[2] <= k[2] ? 1 : 0;
                    break;
                }
            }
        }
        return what == 0 ? hit : f.size();
    }

    int call(int by, int side, boolean out) {
        if (!in(by, -20, 20) || !in(side, 0, 1)) {
            return BAD;
        }
        if (calls.size() == 60) {
            return FULL;
        }
        calls.add(new Call(by, side, out));
        return calls.size();
    }

    int lean(int side, int what) {
        if (!in(side, 0, 1) || !in(what, 0, 1)) {
            return -100;
        }
        int best = 0;
        int most = -1;
        int of = 0;
        for (int l = -20; l <= 20; l++) {
            int so = 0;
            of = 0;
            for (Call c : calls) {
                if (c.side == side) {
                    of++;
                    so += c.out == (c.by > l) ? 1 : 0;
                }
            }
            if (so > most || so == most && Math.abs(l) < Math.abs(best)) {
                most = so;
                best = l;
            }
        }
        return what == 0 ? best : of - most;
    }

    int sort(int sort, int what, int v) {
        if (!in(sort, 0, 3) || !in(what, 0, 1) || !in(v, 0, 10)) {
            return BAD;
        }
        int[] row = what == 0 ? p : r;
        int was = row[sort];
        row[sort] = v;
        worths.clear();
        return was;
    }

    private boolean notTen() {
        return p[0] + p[1] + p[2] + p[3] != 10;
    }

    private Frac asked(int n, int k, int s) {
        Frac right = Frac.of(r[s], 10).times(Frac.of(1, 1).plus(value(n, k)));
        Frac wrong = Frac.of(10 - r[s], 10).times(value(n, k - 1));
        return right.plus(wrong);
    }

    private Frac value(int n, int k) {
        if (n == 0) {
            return Frac.of(0, 1);
        }
        Frac known = worths.get(n * 10 + k);
        if (known != null) {
            return known;
        }
        Frac sum = Frac.of(0, 1);
        for (int s = 0; s < 4; s++) {
            Frac best = value(n - 1, k);
            if (k > 0 && asked(n - 1, k, s).isMoreThan(best)) {
                best = asked(n - 1, k, s);
            }
            sum = sum.plus(Frac.of(p[s], 10).times(best));
        }
        worths.put(n * 10 + k, sum);
        return sum;
    }

    long worth(int n, int k, int part) {
        if (!in(n, 0, 8) || !in(k, 0, 8) || !in(part, 0, 1)) {
            return -1;
        }
        if (notTen()) {
            return -2;
        }
        Frac f = value(n, k);
        return (part == 0 ? f.above : f.below).longValueExact();
    }

    int when(int n, int k, int sort) {
        if (!in(n, 0, 7) || !in(k, 0, 8) || !in(sort, 0, 3)) {
            return BAD;
        }
        if (notTen()) {
            return NO;
        }
        return k > 0 && asked(n, k, sort).isMoreThan(value(n, k)) ? 1 : 0;
    }

    int truly(int out, boolean was) {
        if (!in(out, 0, 100)) {
            return BAD;
        }
        if (cases.size() == 30) {
            return FULL;
        }
        cases.add(new Case(out, was));
        return cases.size();
    }

    int bestSure(int what) {
        if (!in(what, 0, 2)) {
            return BAD;
        }
        int[] best = null;
        for (int s = 51; s <= 100; s++) {
            int wrong = 0;
            int untold = 0;
            for (Case c : cases) {
                boolean saidOut = c.out >= s;
                boolean saidIn = 100 - c.out >= s;
                wrong += saidOut && !c.was || saidIn && c.was ? 1 : 0;
                untold += !saidOut && !saidIn ? 1 : 0;
            }
            if (best == null || wrong * 100 + untold < best[1] * 100 + best[2]) {
                best = new int[] {s, wrong, untold};
            }
        }
        return best[what];
    }

    int keep() {
        if (kept.size() == 2) {
            return FULL;
        }
        kept.add(new World(ball.clone(), new ArrayList<>(sights), left));
        return kept.size();
    }

    int back() {
        if (kept.isEmpty()) {
            return NO;
        }
        World w = kept.remove(kept.size() - 1);
        ball = w.ball;
        sights = w.sights;
        left = w.left;
        path = null;
        return kept.size();
    }

    int count(int what) {
        if (!in(what, 0, 5)) {
            return BAD;
        }
        return new int[] {text.length(), items(laid).length, sights.size(), calls.size(), cases.size(),
            kept.size()}[what];
    }
}
