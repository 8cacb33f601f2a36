import java.util.Arrays;

/** Was it out: README.md tells how to use it, the document what each call promises. */
public final class WasItOut {
    public static final int BAD = -1, NO = -2, FULL = -3, NONE = -4;

    private static final int CURVES = 189;
    private static final int SPINS = 9;
    private static final int LAST_TICK = 600;
    private static final int CAMERAS = 4;
    private static final int SIGHTS = 30;
    private static final int MOST_KEPT = 2;
    private static final int FIELD = 100000;
    private static final int MOST_DOUBT = 1000;

    private static final int BAD_LINE = -100000;
    private static final int BAD_BALL = -1000000;
    private static final int BAD_PLACE = -2000000000;
    private static final int NO_TOUCH = -2000000004;
    private static final int BAD_SMALL = -100;

    private final Text text = new Text();
    private final Law laid = new Law();
    private final World now = new World();
    private final World keptFirst = new World();
    private final World keptSecond = new World();
    private final int[] lenses = new int[CAMERAS * 3];
    private final Flight flight = new Flight(laid, now);
    private final Views views = new Views(now, flight, lenses);
    private final Judge judge = new Judge();
    private final Asks asks = new Asks();
    private final Cases cases = new Cases();
    private int keptCount;

    public WasItOut() {
        keptCount = 0;
    }

    // ---- laws, balls

    public int write(int n, long v) {
        return within(n, 1, 8) ? text.append(n, v) : BAD;
    }

    public int wipe() {
        return text.clear();
    }

    public int fault() {
        return text.firstFault();
    }

    public int lay() {
        if (text.firstFault() != NONE) {
            return NO;
        }
        laid.read(text);
        forgetFlight();
        return laid.itemCount();
    }

    public int law(int what) {
        return within(what, 0, Law.NUMBERS - 1) ? laid.number(what) : BAD;
    }

    public int line(int x) {
        return onField(x) ? laid.paintedAt(x) : BAD_LINE;
    }

    public int ball(int what, int v) {
        if (!World.mayBegin(what, v)) {
            return BAD_BALL;
        }
        int was = now.begin(what, v);
        forgetFlight();
        return was;
    }

    public int at(int curve, int t, int what) {
        if (!isCurve(curve) || !isTick(t) || !within(what, 0, 5)) {
            return BAD_PLACE;
        }
        flight.fly();
        return flight.stateOf(curve, t, what);
    }

    public int touch(int curve, int what) {
        if (!isCurve(curve) || !within(what, 0, 4)) {
            return BAD_PLACE;
        }
        flight.fly();
        return flight.touches() ? flight.touchPart(curve, what) : NO_TOUCH;
    }

    // ---- sights

    public int camera(int c, int what, int v) {
        if (!isCamera(c) || !within(what, 0, 2) || !within(v, -10, 10)) {
            return BAD_SMALL;
        }
        int slot = c * 3 + what;
        if (slot >= lenses.length) {
            return BAD_SMALL;
        }
        int was = lenses[slot];
        lenses[slot] = v;
        views.forget();
        return was;
    }

    public int blur(int c, int t, int n, int e) {
        if (!isCamera(c) || !isTick(t) || !within(n, -1000000, 1000000) || !isDoubt(e)) {
            return BAD;
        }
        return now.addSight(World.BLUR, c, n, t, e, 1);
    }

    public int mark(int x, int y, int e) {
        if (!onField(x) || !onField(y) || !isDoubt(e)) {
            return BAD;
        }
        return now.addSight(World.MARK, x, y, 0, e, 1);
    }

    public int heard(int x, int y, int t, int e, int s) {
        if (!onField(x) || !onField(y) || !isTick(t) || !isDoubt(e) || !within(s, 1, 500)) {
            return BAD;
        }
        return now.addSight(World.HEARD, x, y, t, e, s);
    }

    public int noSights() {
        int were = now.dropSights();
        views.forget();
        return were;
    }

    public int leave(int cameras) {
        return within(cameras, 0, 15) ? now.leaveOut(cameras) : BAD;
    }

    public int fits(int curve, int i) {
        if (!isCurve(curve) || !within(i, -1, now.sightCount() - 1)) {
            return BAD;
        }
        views.learn();
        int asked = i < 0 ? now.askedSights(now.leftOut()) : 1 << i;
        return views.agrees(curve, asked) ? 1 : 0;
    }

    public int fitting(int i) {
        if (i < -1) {
            return BAD;
        }
        views.learn();
        int asked = now.askedSights(now.leftOut());
        return i < 0 ? views.agreeing(asked) : views.agreeingAt(asked, i);
    }

    public int odds(int what) {
        if (!within(what, 0, 2)) {
            return BAD;
        }
        views.learn();
        int asked = now.askedSights(now.leftOut());
        int out = views.agreeingOut(asked);
        int fit = views.agreeing(asked);
        int in = flight.touches() ? fit - out : 0;
        if (what < 2) {
            return what == 0 ? out : in;
        }
        return fit == 0 ? NONE : calledBy(out, in, laid.number(Law.SURE) * fit);
    }

    public int shown(int what) {
        if (!within(what, 0, 1)) {
            return BAD;
        }
        views.learn();
        int curve = views.nearest();
        return what == 0 ? curve : views.offSum(curve);
    }

    public int apart(int a, int b) {
        if (!isCurve(a) || !isCurve(b)) {
            return BAD;
        }
        flight.fly();
        return flight.touches() ? flight.touchGap(a, b) : NONE;
    }

    public int moved() {
        views.learn();
        return views.fewestToLeave();
    }

    public int whose(int sight) {
        if (!within(sight, 0, now.sightCount() - 1) || now.isBlur(sight)) {
            return BAD;
        }
        views.learn();
        int blurs = now.askedBlurs(now.leftOut());
        int all = views.agreeing(blurs);
        int both = views.agreeing(blurs | 1 << sight);
        if (both == 0) {
            return 0;
        }
        return both == all ? 2 : 1;
    }

    public int would(int what) {
        if (!within(what, 0, 1)) {
            return BAD;
        }
        if (!laid.hasWicket()) {
            return NO;
        }
        views.learn();
        int asked = now.askedSights(now.leftOut());
        return what == 0 ? views.hitting(asked, laid) : views.agreeing(asked);
    }

    // ---- judges, asks, rules

    public int call(int by, int side, boolean out) {
        return within(by, -20, 20) && within(side, 0, 1) ? judge.hear(by, side, out) : BAD;
    }

    public int lean(int side, int what) {
        if (!within(side, 0, 1) || !within(what, 0, 1)) {
            return BAD_SMALL;
        }
        int leaning = judge.leaning(side);
        return what == 0 ? leaning : judge.unlike(side, leaning);
    }

    public int sort(int sort, int what, int v) {
        if (!within(sort, 0, Asks.SORTS - 1) || !within(what, 0, 1) || !within(v, 0, 10)) {
            return BAD;
        }
        return asks.setTenths(sort, what, v);
    }

    public long worth(int n, int k, int part) {
        if (!within(n, 0, Asks.MOST) || !within(k, 0, Asks.MOST) || !within(part, 0, 1)) {
            return BAD;
        }
        return asks.isWhole() ? asks.fraction(n, k, part) : NO;
    }

    public int when(int n, int k, int sort) {
        if (!within(n, 0, Asks.MOST - 1) || !within(k, 0, Asks.MOST) || !within(sort, 0, Asks.SORTS - 1)) {
            return BAD;
        }
        if (!asks.isWhole()) {
            return NO;
        }
        return asks.shouldAsk(n, k, sort) ? 1 : 0;
    }

    public int truly(int out, boolean was) {
        return within(out, 0, 100) ? cases.add(out, was) : BAD;
    }

    public int bestSure(int what) {
        if (!within(what, 0, 2)) {
            return BAD;
        }
        int best = cases.bestRule();
        if (what == 0) {
            return best;
        }
        return what == 1 ? cases.wrongUnder(best) : cases.untoldUnder(best);
    }

    public int keep() {
        if (keptCount >= MOST_KEPT) {
            return FULL;
        }
        World free = keptCount == 0 ? keptFirst : keptSecond;
        free.copyOf(now);
        keptCount++;
        return keptCount;
    }

    public int back() {
        if (keptCount <= 0) {
            return NO;
        }
        keptCount--;
        now.copyOf(keptCount == 0 ? keptFirst : keptSecond);
        forgetFlight();
        return keptCount;
    }

    public int count(int what) {
        switch (what) {
            case 0:
                return text.size();
            case 1:
                return laid.itemCount();
            case 2:
                return now.sightCount();
            case 3:
                return judge.size();
            case 4:
                return cases.size();
            case 5:
                return keptCount;
            default:
                return BAD;
        }
    }

    private void forgetFlight() {
        flight.forget();
        views.forget();
    }

    private static int calledBy(int out, int in, int needed) {
        if (100 * out >= needed) {
            return 2;
        }
        return 100 * in >= needed ? 0 : 1;
    }

    private static boolean within(int v, int low, int high) {
        return v >= low && v <= high;
    }

    private static boolean onField(int v) {
        return within(v, -FIELD, FIELD);
    }

    private static boolean isCurve(int curve) {
        return within(curve, 0, CURVES - 1);
    }

    private static boolean isTick(int t) {
        return within(t, 0, LAST_TICK);
    }

    private static boolean isCamera(int c) {
        return within(c, 0, CAMERAS - 1);
    }

    private static boolean isDoubt(int e) {
        return within(e, 0, MOST_DOUBT);
    }

    /** THE TEXT as it is written; it is no law before it is laid. */
    private static final class Text {
        private static final int MOST = 200;

        private final int[] bytes = new int[MOST];
        private final Item item = new Item();
        private int length;

        int size() {
            return length;
        }

        int byteAt(int place) {
            return place >= 0 && place < length && place < bytes.length ? bytes[place] : -1;
        }

        int append(int n, long v) {
            if (length + n > MOST) {
                return FULL;
            }
            for (int shift = 8 * (n - 1); shift >= 0 && length < bytes.length; shift -= 8) {
                bytes[length] = (int) (v >>> shift) & 255;
                length++;
            }
            return length;
        }

        int clear() {
            int was = length;
            length = 0;
            return was;
        }

        int firstFault() {
            int place = 0;
            for (int i = 0; i < MOST && place < length; i++) {
                int behind = item.readFrom(this, place);
                if (behind < 0) {
                    return place;
                }
                place = behind;
            }
            return NONE;
        }
    }

    /** One ITEM at a time, read over and over into the same row. */
    private static final class Item {
        private static final char[] LETTERS = {'a', 'g', 'b', 'r', 'q', 't', 'l', 'k'};
        private static final int[] AMOUNTS = {1, 1, 1, 1, 1, 1, 2, 3};
        private static final int[] FIRST_BOUNDS = {0, 1, 2, 3, 4, 5, 6, 8};
        private static final int[] LOWEST = {0, 0, 0, 0, 0, 51, -9999, -9999, -9999, 0, 0};
        private static final int[] HIGHEST = {500, 100, 1000, 1000, 100, 100, 9999, 9999, 9999, 9999, 9999};
        private static final int MOST_FIGURES = 4;

        private final int[] numbers = new int[3];
        private int kind;

        int kind() {
            return kind;
        }

        int number(int i) {
            return i >= 0 && i < numbers.length ? numbers[i] : 0;
        }

        /** The place behind the ITEM, or -1 if it is not so. */
        int readFrom(Text text, int from) {
            kind = kindOf(text.byteAt(from));
            if (kind < 0 || kind >= AMOUNTS.length) {
                return -1;
            }
            int amount = AMOUNTS[kind];
            int place = from + 1;
            for (int i = 0; i < amount; i++) {
                place = readNumber(text, place, i);
                char parting = i == amount - 1 ? ';' : ',';
                if (place < 0 || text.byteAt(place) != parting || !isBounded(i)) {
                    return -1;
                }
                place++;
            }
            return place;
        }

        private int readNumber(Text text, int from, int i) {
            boolean below = text.byteAt(from) == '-';
            int start = below ? from + 1 : from;
            int place = start;
            int value = 0;
            while (place < start + MOST_FIGURES && isFigure(text.byteAt(place))) {
                value = value * 10 + text.byteAt(place) - '0';
                place++;
            }
            if (place == start || below && value == 0 || i < 0 || i >= numbers.length) {
                return -1;
            }
            numbers[i] = below ? -value : value;
            return place;
        }

        private boolean isBounded(int i) {
            if (kind < 0 || kind >= FIRST_BOUNDS.length) {
                return false;
            }
            int bound = FIRST_BOUNDS[kind] + i;
            if (bound < 0 || bound >= LOWEST.length || bound >= HIGHEST.length) {
                return false;
            }
            return within(number(i), LOWEST[bound], HIGHEST[bound]);
        }

        private static boolean isFigure(int sign) {
            return sign >= '0' && sign <= '9';
        }

        private static int kindOf(int sign) {
            for (int i = 0; i < LETTERS.length; i++) {
                if (LETTERS[i] == sign) {
                    return i;
                }
            }
            return -1;
        }
    }

    /** What is LAID. */
    private static final class Law {
        static final int AIR = 0, WEIGHT = 1, BOUNCE = 2, GRIP = 3, SQUEEZE = 4, SURE = 5;
        static final int NUMBERS = 6;
        private static final int LINE_KIND = 6;
        private static final int[] WITHOUT = {0, 1, 500, 1000, 0, 90};
        // the shortest line, l0,0; has five bytes, so that 200 bytes hold no more
        private static final int MOST_LINES = 40;

        private final int[] numbers = new int[NUMBERS];
        private final int[] lineFrom = new int[MOST_LINES];
        private final int[] lineY = new int[MOST_LINES];
        private final Item item = new Item();
        private int lineCount;
        private boolean wicketStands;
        private int wicketX;
        private int wicketSide;
        private int wicketHigh;
        private int items;

        Law() {
            reset();
        }

        int itemCount() {
            return items;
        }

        boolean hasWicket() {
            return wicketStands;
        }

        int wicketX() {
            return wicketX;
        }

        int wicketSide() {
            return wicketSide;
        }

        int wicketHigh() {
            return wicketHigh;
        }

        int number(int what) {
            return what >= 0 && what < numbers.length ? numbers[what] : 0;
        }

        int paintedAt(int x) {
            int best = -1;
            int y = 0;
            for (int i = 0; i < lineCount && i < MOST_LINES; i++) {
                if (lineFrom[i] <= x && (best < 0 || lineFrom[i] >= lineFrom[best])) {
                    best = i;
                    y = lineY[i];
                }
            }
            return y;
        }

        /** Asks for a text without a FAULT. */
        void read(Text text) {
            reset();
            int place = 0;
            for (int i = 0; i < Text.MOST && place >= 0 && place < text.size(); i++) {
                place = item.readFrom(text, place);
                take();
                items++;
            }
        }

        private void reset() {
            for (int i = 0; i < numbers.length && i < WITHOUT.length; i++) {
                numbers[i] = WITHOUT[i];
            }
            lineCount = 0;
            wicketStands = false;
            items = 0;
        }

        private void take() {
            int kind = item.kind();
            if (kind >= 0 && kind < numbers.length) {
                numbers[kind] = item.number(0);
            } else if (kind == LINE_KIND) {
                paint(item.number(0), item.number(1));
            } else {
                wicketStands = true;
                wicketX = item.number(0);
                wicketSide = item.number(1);
                wicketHigh = item.number(2);
            }
        }

        private void paint(int from, int y) {
            if (lineCount >= 0 && lineCount < MOST_LINES) {
                lineFrom[lineCount] = from;
                lineY[lineCount] = y;
                lineCount++;
            }
        }
    }

    /** What is KEPT together: THE BALL, SIGHTS, CAMERAS left out. */
    private static final class World {
        static final int BLUR = 0, MARK = 1, HEARD = 2;
        static final int X = 0, Y = 1, Z = 2, U = 3, V = 4, W = 5;
        private static final int[] LOWEST = {-100000, -100000, 0, -2000, -2000, -2000};
        private static final int[] HIGHEST = {100000, 100000, 100000, 2000, 2000, 2000};
        // a sight's row: kind, CAMERA or x, n or y, tick, doubt, speed of sound
        private static final int ROW = 6;

        private final int[] start = new int[6];
        private final int[] rows = new int[SIGHTS * ROW];
        private int amount;
        private int left;

        static boolean mayBegin(int what, int v) {
            return what >= 0 && what < LOWEST.length && what < HIGHEST.length
                && within(v, LOWEST[what], HIGHEST[what]);
        }

        int begin(int what, int v) {
            int was = startOf(what);
            if (what >= 0 && what < start.length) {
                start[what] = v;
            }
            return was;
        }

        int startOf(int what) {
            return what >= 0 && what < start.length ? start[what] : 0;
        }

        int sightCount() {
            return amount;
        }

        int leftOut() {
            return left;
        }

        int leaveOut(int cameras) {
            int was = left;
            left = cameras;
            return was;
        }

        int dropSights() {
            int were = amount;
            amount = 0;
            return were;
        }

        int addSight(int kind, int first, int second, int tick, int doubt, int speed) {
            int row = amount * ROW;
            if (amount >= SIGHTS || row < 0 || row + ROW > rows.length) {
                return FULL;
            }
            rows[row] = kind;
            rows[row + 1] = first;
            rows[row + 2] = second;
            rows[row + 3] = tick;
            rows[row + 4] = doubt;
            rows[row + 5] = speed;
            amount++;
            return amount - 1;
        }

        boolean isBlur(int i) {
            return part(i, 0) == BLUR;
        }

        int kindOf(int i) {
            return part(i, 0);
        }

        int firstOf(int i) {
            return part(i, 1);
        }

        int secondOf(int i) {
            return part(i, 2);
        }

        int tickOf(int i) {
            return part(i, 3);
        }

        int doubtOf(int i) {
            return part(i, 4);
        }

        int speedOf(int i) {
            return part(i, 5);
        }

        /** A bit for each SIGHT that a CURVE must FIT, these CAMERAS being left out. */
        int askedSights(int leaving) {
            int asked = askedBlurs(leaving);
            for (int i = 0; i < amount; i++) {
                if (!isBlur(i)) {
                    asked |= 1 << i;
                }
            }
            return asked;
        }

        int askedBlurs(int leaving) {
            int asked = 0;
            for (int i = 0; i < amount; i++) {
                if (isBlur(i) && (leaving >> firstOf(i) & 1) == 0) {
                    asked |= 1 << i;
                }
            }
            return asked;
        }

        void copyOf(World other) {
            System.arraycopy(other.start, 0, start, 0, start.length);
            System.arraycopy(other.rows, 0, rows, 0, rows.length);
            amount = other.amount;
            left = other.left;
        }

        private int part(int i, int which) {
            int place = i * ROW + which;
            return i >= 0 && i < amount && place < rows.length ? rows[place] : 0;
        }
    }

    /**
     * How THE BALL goes. CURVES differ by v and SPIN alone, and neither reaches x or z: so x, z, u, w
     * and the TICK of the TOUCH are the same for all of them and are worked out once.
     */
    private static final class Flight {
        private final Law law;
        private final World now;
        private final int[] xs = new int[LAST_TICK + 1];
        private final int[] zs = new int[LAST_TICK + 1];
        private final int[] us = new int[LAST_TICK + 1];
        private final int[] ws = new int[LAST_TICK + 1];
        private final int[] ys = new int[LAST_TICK + 1];
        private final int[] touchYs = new int[CURVES];
        private boolean flown;
        private boolean touchYsKnown;
        private int sideV;
        private int touchTick;
        private int touchX;
        private int touchLine;
        private int half;

        Flight(Law law, World now) {
            this.law = law;
            this.now = now;
        }

        void forget() {
            flown = false;
            touchYsKnown = false;
        }

        /** Goes what all CURVES share; all else here asks for it to have been called. */
        void fly() {
            if (flown) {
                return;
            }
            flown = true;
            touchTick = 0;
            int air = law.number(Law.AIR);
            int weight = law.number(Law.WEIGHT);
            int bounce = law.number(Law.BOUNCE);
            int grip = law.number(Law.GRIP);
            int x = now.startOf(World.X);
            int z = now.startOf(World.Z);
            int u = now.startOf(World.U);
            int w = now.startOf(World.W);
            note(0, x, z, u, w);
            for (int t = 1; t <= LAST_TICK; t++) {
                u -= u * air / 1000;
                w -= w * air / 1000;
                w -= weight;
                x += u;
                z += w;
                if (z <= 0 && w < 0) {
                    noteTouch(t, x, w);
                    z = 0;
                    w = -w * bounce / 1000;
                    u = u * grip / 1000;
                }
                note(t, x, z, u, w);
            }
        }

        /** Goes one CURVE's y up to a TICK. */
        void runSide(int curve, int upTo) {
            int spin = curve % SPINS - 4;
            int v = now.startOf(World.V) + curve / SPINS - 10;
            int y = now.startOf(World.Y);
            int air = law.number(Law.AIR);
            ys[0] = y;
            for (int t = 1; t <= upTo && t < ys.length; t++) {
                v -= v * air / 1000;
                v += spin;
                y += v;
                ys[t] = y;
            }
            sideV = v;
        }

        /** Worth its cost where all CURVES are asked, not for one. */
        void knowTouchYs() {
            if (touchYsKnown) {
                return;
            }
            for (int curve = 0; curve < touchYs.length; curve++) {
                touchYs[curve] = touchY(curve);
            }
            touchYsKnown = true;
        }

        int knownTouchY(int curve) {
            return curve >= 0 && curve < touchYs.length ? touchYs[curve] : 0;
        }

        boolean touches() {
            return touchTick > 0;
        }

        int touchTick() {
            return touchTick;
        }

        int touchX() {
            return touchX;
        }

        boolean isOutWith(int y) {
            return touches() && y - half > touchLine;
        }

        int touchPart(int curve, int what) {
            switch (what) {
                case 0:
                    return touchTick;
                case 1:
                    return touchX;
                case 2:
                    return touchY(curve);
                case 3:
                    return half;
                default:
                    return isOutWith(touchY(curve)) ? 1 : 0;
            }
        }

        /** All CURVES touch at the same x, so that only y can part them. */
        int touchGap(int a, int b) {
            return Math.abs(touchY(a) - touchY(b));
        }

        int stateOf(int curve, int t, int what) {
            switch (what) {
                case World.X:
                    return partAt(xs, t);
                case World.Z:
                    return partAt(zs, t);
                case World.U:
                    return partAt(us, t);
                case World.W:
                    return partAt(ws, t);
                default:
                    runSide(curve, t);
                    return what == World.Y ? partAt(ys, t) : sideV;
            }
        }

        int xAt(int t) {
            return partAt(xs, t);
        }

        int zAt(int t) {
            return partAt(zs, t);
        }

        /** y of the CURVE that runSide went last. */
        int yAt(int t) {
            return partAt(ys, t);
        }

        /** The first TICK with x at this place or more, 0 if it doesn't come there from below. */
        int tickReaching(int place) {
            if (partAt(xs, 0) >= place) {
                return 0;
            }
            for (int t = 1; t < xs.length; t++) {
                if (xs[t] >= place) {
                    return t;
                }
            }
            return 0;
        }

        private int touchY(int curve) {
            runSide(curve, touchTick);
            return partAt(ys, touchTick);
        }

        private void note(int t, int x, int z, int u, int w) {
            if (t < 0 || t > LAST_TICK) {
                return;
            }
            xs[t] = x;
            zs[t] = z;
            us[t] = u;
            ws[t] = w;
        }

        private void noteTouch(int t, int x, int w) {
            if (touchTick == 0) {
                touchTick = t;
                touchX = x;
                touchLine = law.paintedAt(x);
                half = law.number(Law.SQUEEZE) * -w / 10;
            }
        }

        private static int partAt(int[] row, int t) {
            return t >= 0 && t < row.length ? row[t] : 0;
        }
    }

    /** Which SIGHTS each CURVE FITS, a bit each, and how far it is off what each CAMERA saw. */
    private static final class Views {
        private static final int FAR_OFF = 2000000000;

        private final World now;
        private final Flight flight;
        private final int[] lenses;
        private final int[] fitBits = new int[CURVES];
        private final int[] offSums = new int[CAMERAS * CURVES];
        private int known;
        private boolean stale;

        Views(World now, Flight flight, int[] lenses) {
            this.now = now;
            this.flight = flight;
            this.lenses = lenses;
        }

        void forget() {
            known = 0;
            stale = true;
        }

        /** Looks at SIGHTS that came since the last time; all questions below ask for it to have been called. */
        void learn() {
            flight.fly();
            if (stale) {
                Arrays.fill(fitBits, 0);
                Arrays.fill(offSums, 0);
                stale = false;
            }
            if (known >= now.sightCount()) {
                return;
            }
            int last = lastUnknownTick();
            boolean touched = needsTouch() && flight.touches();
            if (touched) {
                flight.knowTouchYs();
            }
            for (int curve = 0; curve < CURVES; curve++) {
                flight.runSide(curve, last);
                for (int i = known; i < now.sightCount(); i++) {
                    compare(curve, i, touched);
                }
            }
            known = now.sightCount();
        }

        boolean agrees(int curve, int asked) {
            return curve >= 0 && curve < fitBits.length && (fitBits[curve] & asked) == asked;
        }

        int agreeing(int asked) {
            int many = 0;
            for (int curve = 0; curve < CURVES; curve++) {
                many += agrees(curve, asked) ? 1 : 0;
            }
            return many;
        }

        int agreeingAt(int asked, int i) {
            int before = 0;
            for (int curve = 0; curve < CURVES; curve++) {
                if (agrees(curve, asked)) {
                    if (before == i) {
                        return curve;
                    }
                    before++;
                }
            }
            return NONE;
        }

        int agreeingOut(int asked) {
            int many = 0;
            flight.knowTouchYs();
            for (int curve = 0; curve < CURVES; curve++) {
                many += agrees(curve, asked) && flight.isOutWith(flight.knownTouchY(curve)) ? 1 : 0;
            }
            return many;
        }

        int hitting(int asked, Law law) {
            int tick = flight.tickReaching(law.wicketX());
            if (tick == 0 || flight.zAt(tick) > law.wicketHigh()) {
                return 0;
            }
            int many = 0;
            for (int curve = 0; curve < CURVES; curve++) {
                if (agrees(curve, asked)) {
                    flight.runSide(curve, tick);
                    many += Math.abs(flight.yAt(tick)) <= law.wicketSide() ? 1 : 0;
                }
            }
            return many;
        }

        int nearest() {
            int best = 0;
            int least = offSum(0);
            for (int curve = 1; curve < CURVES; curve++) {
                int sum = offSum(curve);
                if (sum < least) {
                    best = curve;
                    least = sum;
                }
            }
            return best;
        }

        int offSum(int curve) {
            int sum = 0;
            for (int c = 0; c < CAMERAS; c++) {
                int place = c * CURVES + curve;
                if ((now.leftOut() >> c & 1) == 0 && place >= 0 && place < offSums.length) {
                    sum += offSums[place];
                }
            }
            return sum;
        }

        int fewestToLeave() {
            for (int many = 0; many <= CAMERAS; many++) {
                for (int more = 0; more < 1 << CAMERAS; more++) {
                    boolean fresh = (more & now.leftOut()) == 0;
                    if (fresh && Integer.bitCount(more) == many && someAgrees(now.leftOut() | more)) {
                        return more;
                    }
                }
            }
            return NONE;
        }

        private boolean someAgrees(int leaving) {
            return agreeingAt(now.askedSights(leaving), 0) != NONE;
        }

        private int lastUnknownTick() {
            int last = 0;
            for (int i = known; i < now.sightCount(); i++) {
                last = now.isBlur(i) ? Math.max(last, now.tickOf(i)) : last;
            }
            return last;
        }

        private boolean needsTouch() {
            for (int i = known; i < now.sightCount(); i++) {
                if (!now.isBlur(i)) {
                    return true;
                }
            }
            return false;
        }

        private void compare(int curve, int i, boolean touched) {
            int off = FAR_OFF;
            if (now.isBlur(i)) {
                off = Math.abs(seen(now.firstOf(i), now.tickOf(i)) - now.secondOf(i));
                addOff(now.firstOf(i) * CURVES + curve, off);
            } else if (touched) {
                off = now.kindOf(i) == World.MARK ? howFar(curve, i) : howLate(curve, i);
            }
            if (off <= now.doubtOf(i) && curve >= 0 && curve < fitBits.length) {
                fitBits[curve] |= 1 << i;
            }
        }

        private void addOff(int place, int off) {
            if (place >= 0 && place < offSums.length) {
                offSums[place] += off;
            }
        }

        private int seen(int c, int t) {
            int first = c * 3;
            if (first < 0 || first + 2 >= lenses.length) {
                return 0;
            }
            return (lenses[first] * flight.xAt(t) + lenses[first + 1] * flight.yAt(t)
                + lenses[first + 2] * flight.zAt(t)) / 10;
        }

        private int howFar(int curve, int i) {
            int across = Math.abs(flight.touchX() - now.firstOf(i));
            int along = Math.abs(flight.knownTouchY(curve) - now.secondOf(i));
            return Math.max(across, along);
        }

        private int howLate(int curve, int i) {
            int speed = now.speedOf(i);
            if (speed < 1) {
                return FAR_OFF;
            }
            int travel = (howFar(curve, i) + speed - 1) / speed;
            return Math.abs(flight.touchTick() + travel - now.tickOf(i));
        }
    }

    /** Calls of A JUDGE, of both sides in one row. */
    private static final class Judge {
        private static final int MOST = 60;
        private static final int FARTHEST = 20;

        private final int[] byHowMuch = new int[MOST];
        private final int[] sides = new int[MOST];
        private final boolean[] saidOut = new boolean[MOST];
        private int amount;

        int size() {
            return amount;
        }

        int hear(int by, int side, boolean out) {
            if (amount < 0 || amount >= MOST) {
                return FULL;
            }
            byHowMuch[amount] = by;
            sides[amount] = side;
            saidOut[amount] = out;
            amount++;
            return amount;
        }

        int leaning(int side) {
            int best = 0;
            int fewest = unlike(side, 0);
            for (int far = 1; far <= FARTHEST; far++) {
                // the lower one is tried first, so that it stays where both are alike
                int low = unlike(side, -far);
                if (low < fewest) {
                    best = -far;
                    fewest = low;
                }
                int high = unlike(side, far);
                if (high < fewest) {
                    best = far;
                    fewest = high;
                }
            }
            return best;
        }

        int unlike(int side, int leaning) {
            int many = 0;
            for (int i = 0; i < amount && i < MOST; i++) {
                many += sides[i] == side && saidOut[i] != byHowMuch[i] > leaning ? 1 : 0;
            }
            return many;
        }
    }

    /**
     * WORTH of n balls is held times 100 to the n, which is whole: each ball brings a tenth for its sort
     * and a tenth for being right. With eight balls this stays below 8 times 10 to the 16.
     */
    private static final class Asks {
        static final int SORTS = 4;
        static final int MOST = 8;
        private static final int WIDE = MOST + 1;
        // of longs, the steps to a common divisor are fewer than 100
        private static final int MOST_STEPS = 200;

        private final int[] comes = {10, 0, 0, 0};
        private final int[] right = {0, 0, 0, 0};
        private final long[] worths = new long[WIDE * WIDE];
        private final long[] scales = new long[WIDE];
        private boolean known;

        int setTenths(int sort, int what, int v) {
            int[] row = what == 0 ? comes : right;
            int was = tenths(row, sort);
            if (sort >= 0 && sort < row.length) {
                row[sort] = v;
            }
            known = false;
            return was;
        }

        boolean isWhole() {
            int sum = 0;
            for (int i = 0; i < comes.length; i++) {
                sum += comes[i];
            }
            return sum == 10;
        }

        long fraction(int n, int k, int part) {
            learn();
            long above = worthOf(n, k);
            long below = scaleOf(n);
            long common = commonDivisor(above, below);
            if (common < 1) {
                return part;
            }
            return part == 0 ? above / common : below / common;
        }

        boolean shouldAsk(int n, int k, int sort) {
            learn();
            return k > 0 && asking(n, k, sort) > 10 * worthOf(n, k);
        }

        private void learn() {
            if (known) {
                return;
            }
            known = true;
            long scale = 1;
            for (int n = 0; n < WIDE; n++) {
                scales[n] = scale;
                scale *= 100;
                for (int k = 0; k < WIDE; k++) {
                    worths[n * WIDE + k] = n == 0 ? 0 : average(n - 1, k);
                }
            }
        }

        private long average(int more, int k) {
            long sum = 0;
            for (int sort = 0; sort < SORTS; sort++) {
                long best = 10 * worthOf(more, k);
                if (k > 0) {
                    best = Math.max(best, asking(more, k, sort));
                }
                sum += tenths(comes, sort) * best;
            }
            return sum;
        }

        private long asking(int more, int k, int sort) {
            long r = tenths(right, sort);
            return r * (scaleOf(more) + worthOf(more, k)) + (10 - r) * worthOf(more, k - 1);
        }

        private long worthOf(int n, int k) {
            return within(n, 0, MOST) && within(k, 0, MOST) ? worths[n * WIDE + k] : 0;
        }

        private long scaleOf(int n) {
            return within(n, 0, MOST) ? scales[n] : 1;
        }

        private static int tenths(int[] row, int sort) {
            return sort >= 0 && sort < row.length ? row[sort] : 0;
        }

        private static long commonDivisor(long a, long b) {
            for (int i = 0; i < MOST_STEPS && b != 0; i++) {
                long rest = a % b;
                a = b;
                b = rest;
            }
            return a;
        }
    }

    /** CASES and the rule of sureness under which fewest are WRONG. */
    private static final class Cases {
        private static final int MOST = 30;
        private static final int LEAST_SURE = 51;

        private final int[] outs = new int[MOST];
        private final boolean[] trulyOut = new boolean[MOST];
        private int amount;

        int size() {
            return amount;
        }

        int add(int out, boolean was) {
            if (amount < 0 || amount >= MOST) {
                return FULL;
            }
            outs[amount] = out;
            trulyOut[amount] = was;
            amount++;
            return amount;
        }

        int bestRule() {
            int best = LEAST_SURE;
            int fewestWrong = MOST + 1;
            int fewestUntold = MOST + 1;
            for (int sure = LEAST_SURE; sure <= 100; sure++) {
                int wrong = wrongUnder(sure);
                int untold = untoldUnder(sure);
                if (wrong < fewestWrong || wrong == fewestWrong && untold < fewestUntold) {
                    best = sure;
                    fewestWrong = wrong;
                    fewestUntold = untold;
                }
            }
            return best;
        }

        int wrongUnder(int sure) {
            int many = 0;
            for (int i = 0; i < amount && i < MOST; i++) {
                int against = trulyOut[i] ? 100 - outs[i] : outs[i];
                many += against >= sure ? 1 : 0;
            }
            return many;
        }

        int untoldUnder(int sure) {
            int many = 0;
            for (int i = 0; i < amount && i < MOST; i++) {
                many += outs[i] < sure && 100 - outs[i] < sure ? 1 : 0;
            }
            return many;
        }
    }
}
