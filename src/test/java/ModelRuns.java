import java.math.BigInteger;
import java.util.ArrayList;
import java.util.List;
import java.util.Random;

/**
 * Runs of drawn calls, each answer against that of a slow model which goes other ways than the program:
 * fractions of any size, doubles as doubles, circles and moves by trying every candidate.
 */
public final class ModelRuns {
    private static final long LOW = -1000000000000000000L;
    private static final long BEYOND = LOW - 1;
    private static final long MISSING = LOW - 2;
    private static final long SIZE = LOW - 3;
    private static final long KIND = LOW - 4;
    private static final long FULL = LOW - 5;
    private static final long NONE = LOW - 6;
    private static final long MISSED = LOW - 7;
    private static final int CALLS = 512;
    private static final int RUNS = 1200;

    private static int wrong = 0;

    public static void main(String[] args) {
        int runs = args.length > 0 ? Integer.parseInt(args[0]) : RUNS;
        long seed = args.length > 1 ? Long.parseLong(args[1]) : 1;
        for (int run = 0; run < runs && wrong < 10; run++) {
            oneRun(seed * 1000003 + run);
        }
        System.out.println(runs + " runs of " + CALLS + " calls, " + wrong + " wrong");
        if (wrong != 0) {
            System.exit(1);
        }
    }

    private static void oneRun(long seed) {
        Draw draw = new Draw(seed);
        TouchBench bench = new TouchBench();
        Model model = new Model();
        List<String> calls = new ArrayList<>();
        for (int c = 0; c < CALLS; c++) {
            Call call = draw.next(model);
            long want = model.count(call.onModel(model));
            long got = call.onBench(bench);
            calls.add(call + " = " + got);
            if (got != want) {
                wrong++;
                System.out.println("seed " + seed + ", call " + c + ": " + call + " answered " + got + ", due is " + want);
                for (int k = Math.max(0, c - 40); k < c; k++) {
                    System.out.println("    " + calls.get(k));
                }
                return;
            }
        }
    }

    /** A call by its number in the face, with up to six arguments. */
    private record Call(int name, long[] a) {
        static final String[] NAMES = {"point", "miss", "clear", "at", "points", "mend", "grid", "off", "apart",
            "sheet", "put", "bits", "copy", "lay", "fit", "drop", "as", "held", "missOf", "way", "middle", "ask",
            "level", "more", "frame", "axis", "inFrame", "corner", "open", "nearest", "far", "box", "unbox", "move",
            "path", "told"};

        private int i(int at) {
            return (int) a[at];
        }

        private boolean b(int at) {
            return a[at] != 0;
        }

        long onBench(TouchBench x) {
            return switch (NAMES[name]) {
                case "point" -> x.point(i(0), i(1), i(2), i(3));
                case "miss" -> x.miss(i(0));
                case "clear" -> x.clear(i(0));
                case "at" -> x.at(i(0), i(1), i(2));
                case "points" -> x.points(i(0), b(1));
                case "mend" -> x.mend(i(0));
                case "grid" -> x.grid(i(0), i(1), i(2));
                case "off" -> x.off(i(0), i(1), b(2));
                case "apart" -> x.apart(i(0), i(1), i(2));
                case "sheet" -> x.sheet(i(0), i(1), i(2));
                case "put" -> x.put(i(0), i(1), i(2));
                case "bits" -> x.bits(i(0), i(1), a[2]);
                case "copy" -> x.copy(i(0), i(1), i(2), i(3), i(4));
                case "lay" -> x.lay(i(0), i(1));
                case "fit" -> x.fit(i(0), i(1), i(2));
                case "drop" -> x.drop(i(0));
                case "as" -> x.as(i(0), i(1));
                case "held" -> x.held(i(0), i(1));
                case "missOf" -> x.missOf(i(0), b(1));
                case "way" -> x.way(i(0), i(1));
                case "middle" -> x.middle(i(0), b(1), b(2));
                case "ask" -> x.ask(i(0), i(1));
                case "level" -> x.level(i(0));
                case "more" -> x.more(i(0), i(1), i(2), i(3));
                case "frame" -> x.frame(i(0), i(1), i(2), i(3), i(4), i(5));
                case "axis" -> x.axis(i(0), i(1));
                case "inFrame" -> x.inFrame(i(0), i(1), i(2));
                case "corner" -> x.corner(i(0), i(1));
                case "open" -> x.open();
                case "nearest" -> x.nearest(i(0), i(1));
                case "far" -> x.far(i(0), i(1), b(2));
                case "box" -> x.box(i(0), i(1), i(2), i(3), i(4), i(5));
                case "unbox" -> x.unbox();
                case "move" -> x.move(i(0), i(1), i(2));
                case "path" -> x.path(i(0));
                default -> x.told(i(0));
            };
        }

        long onModel(Model x) {
            return switch (NAMES[name]) {
                case "point" -> x.point(i(0), i(1), i(2), i(3));
                case "miss" -> x.miss(i(0));
                case "clear" -> x.clear(i(0));
                case "at" -> x.at(i(0), i(1), i(2));
                case "points" -> x.points(i(0), b(1));
                case "mend" -> x.mend(i(0));
                case "grid" -> x.grid(i(0), i(1), i(2));
                case "off" -> x.off(i(0), i(1), b(2));
                case "apart" -> x.apart(i(0), i(1), i(2));
                case "sheet" -> x.sheet(i(0), i(1), i(2));
                case "put" -> x.put(i(0), i(1), i(2));
                case "bits" -> x.bits(i(0), i(1), a[2]);
                case "copy" -> x.copy(i(0), i(1), i(2), i(3), i(4));
                case "lay" -> x.lay(i(0), i(1));
                case "fit" -> x.fit(i(0), i(1), i(2));
                case "drop" -> x.drop(i(0));
                case "as" -> x.as(i(0), i(1));
                case "held" -> x.held(i(0), i(1));
                case "missOf" -> x.missOf(i(0), b(1));
                case "way" -> x.way(i(0), i(1));
                case "middle" -> x.middle(i(0), b(1), b(2));
                case "ask" -> x.ask(i(0), i(1));
                case "level" -> x.level(i(0));
                case "more" -> x.more(i(0), i(1), i(2), i(3));
                case "frame" -> x.frame(i(0), i(1), i(2), i(3), i(4), i(5));
                case "axis" -> x.axis(i(0), i(1));
                case "inFrame" -> x.inFrame(i(0), i(1), i(2));
                case "corner" -> x.corner(i(0), i(1));
                case "open" -> x.open();
                case "nearest" -> x.nearest(i(0), i(1));
                case "far" -> x.far(i(0), i(1), b(2));
                case "box" -> x.box(i(0), i(1), i(2), i(3), i(4), i(5));
                case "unbox" -> x.unbox();
                case "move" -> x.move(i(0), i(1), i(2));
                case "path" -> x.path(i(0));
                default -> x.told(i(0));
            };
        }

        @Override
        public String toString() {
            StringBuilder text = new StringBuilder(NAMES[name]).append('(');
            for (int k = 0; k < a.length; k++) {
                text.append(k == 0 ? "" : ", ").append(a[k]);
            }
            return text.append(')').toString();
        }
    }

    /** Draws calls: mostly such as are taken, with places near together as often as far apart. */
    private static final class Draw {
        private static final int[] ODD = {-1, 4, 6, 16, 49, 301, -301, 2001, Integer.MIN_VALUE, Integer.MAX_VALUE};
        private static final double[] DOUBLES = {0.5, -0.0, 300.0, -300.0, 301.0, 299.5, 1e18, -1e-9,
            Double.NaN, Double.POSITIVE_INFINITY, Double.NEGATIVE_INFINITY, 256.0, 255.0, -1.0, 512.0};

        private final Random random;
        private final int reach;
        private final int oddity;

        Draw(long seed) {
            random = new Random(seed);
            int[] reaches = {1, 2, 4, 10, 60, 300};
            reach = reaches[random.nextInt(reaches.length)];
            oddity = random.nextInt(3) == 0 ? 12 : 60;
        }

        private int within(int least, int most) {
            if (random.nextInt(oddity) == 0) {
                return ODD[random.nextInt(ODD.length)];
            }
            return least + random.nextInt(most - least + 1);
        }

        private int place() {
            if (random.nextInt(40) == 0) {
                return random.nextBoolean() ? 300 : -300;
            }
            return within(-reach, reach);
        }

        private int part() {
            return within(0, 3);
        }

        private int pointOf(Model model, int part) {
            int count = part >= 0 && part < 4 ? model.parts.get(part).size() : 1;
            return within(0, Math.max(0, count - 1));
        }

        private int size(int most) {
            return random.nextInt(3) == 0 ? within(0, most) : within(0, Math.min(most, 3 * reach));
        }

        private long bool() {
            return random.nextInt(2);
        }

        private long doubleBits() {
            if (random.nextInt(3) == 0) {
                return random.nextInt(4) == 0 ? random.nextLong()
                    : Double.doubleToRawLongBits(DOUBLES[random.nextInt(DOUBLES.length)]);
            }
            return Double.doubleToRawLongBits(place());
        }

        private Call call(String name, long... a) {
            for (int k = 0; k < Call.NAMES.length; k++) {
                if (Call.NAMES[k].equals(name)) {
                    return new Call(k, a);
                }
            }
            throw new IllegalArgumentException(name);
        }

        Call next(Model model) {
            int kind = random.nextInt(100);
            if (kind < 22) {
                return nextPoint(model);
            }
            if (kind < 34) {
                return nextSheet();
            }
            if (kind < 64) {
                return nextFigure();
            }
            if (kind < 78) {
                return nextFrame(model);
            }
            return nextOutline(model);
        }

        private Call nextPoint(Model model) {
            int part = part();
            switch (random.nextInt(16)) {
                case 0: return call("miss", part);
                case 1: return random.nextInt(3) == 0 ? call("clear", part) : call("points", part, bool());
                case 2: return call("at", part, pointOf(model, part), within(0, 2));
                case 3: return random.nextInt(2) == 0 ? call("mend", part) : call("off", place(), place(), bool());
                case 4: return call("grid", within(0, 8), within(-50, 50), within(-50, 50));
                case 5: return call("off", within(-300, 300), within(-300, 300), bool());
                case 6: return call("apart", part, part(), within(0, 1));
                default: return call("point", part, place(), place(), place());
            }
        }

        private Call nextSheet() {
            switch (random.nextInt(10)) {
                case 0: return call("sheet", part(), within(0, 3), random.nextBoolean() ? within(0, 48) : within(0, 12));
                case 1: return call("copy", part(), within(0, 12), part(), within(0, 12), within(0, 10));
                case 2: return call("copy", part(), within(0, 2), part(), within(0, 2), within(0, 48));
                case 3: return call("lay", part(), part());
                case 4:
                case 5:
                case 6: return call("bits", part(), within(0, 12), doubleBits());
                default: return call("put", part(), within(0, 12), random.nextInt(9) == 0 ? random.nextInt() : place());
            }
        }

        private Call nextFigure() {
            int f = within(0, 5);
            switch (random.nextInt(14)) {
                case 0: return call("drop", f);
                case 1: return call("as", f, within(0, 5));
                case 2:
                case 3: return call("held", f, within(0, 5));
                case 4:
                case 5: return call("missOf", f, bool());
                case 6: return call("way", f, within(0, 2));
                case 7: return call("middle", f, bool(), bool());
                case 8: return call("ask", f, size(2000));
                case 9: return call("level", f);
                case 10: return call("more", f, size(2000), within(0, 5), size(2000));
                default: {
                    int[] kinds = {2, 2, 2, 3, 5, 5, 5, 5};
                    int kind = random.nextInt(oddity) == 0 ? within(0, 5) : kinds[random.nextInt(kinds.length)];
                    return call("fit", f, kind, part());
                }
            }
        }

        private Call nextFrame(Model model) {
            int part = part();
            switch (random.nextInt(4)) {
                case 0: return call("frame", anyPlane(model), within(-100, 100) / (1 + random.nextInt(60)),
                    within(-100, 100) / (1 + random.nextInt(60)), within(-100, 100) / (1 + random.nextInt(60)),
                    part, pointOf(model, part));
                case 1:
                case 2: return call("axis", within(0, 2), within(0, 2));
                default: return call("inFrame", part, pointOf(model, part), within(0, 2));
            }
        }

        private int anyPlane(Model model) {
            for (int f = 0; f < 6; f++) {
                if (model.figures[f] != null && model.figures[f].kind == 3 && random.nextInt(3) > 0) {
                    return f;
                }
            }
            return within(0, 5);
        }

        private Call nextOutline(Model model) {
            int part = part();
            switch (random.nextInt(16)) {
                case 0:
                case 1:
                case 2: return call("corner", place(), place());
                case 3: return random.nextInt(4) == 0 ? call("open") : call("corner", place(), place());
                case 4:
                case 5: return call("nearest", part, pointOf(model, part));
                case 6:
                case 7: return call("far", part, pointOf(model, part), bool());
                case 8:
                case 9: return call("box", place(), place(), place(), side(), side(), side());
                case 10: return random.nextInt(3) == 0 ? call("unbox") : call("told", within(0, 3));
                case 11:
                case 12:
                case 13: return call("move", part, pointOf(model, part), pointOf(model, part));
                case 14: return call("path", part);
                default: return call("told", within(0, 3));
            }
        }

        private int side() {
            return within(1, Math.min(300, 2 * reach));
        }
    }

    /** A fraction of any size. */
    private record Frac(BigInteger above, BigInteger below) implements Comparable<Frac> {
        static Frac of(BigInteger above, BigInteger below) {
            BigInteger common = above.gcd(below);
            if (below.signum() < 0) {
                common = common.negate();
            }
            return new Frac(above.divide(common), below.divide(common));
        }

        static Frac of(long above, long below) {
            return of(BigInteger.valueOf(above), BigInteger.valueOf(below));
        }

        static Frac of(long whole) {
            return of(whole, 1);
        }

        Frac plus(Frac o) {
            return of(above.multiply(o.below).add(o.above.multiply(below)), below.multiply(o.below));
        }

        Frac minus(Frac o) {
            return plus(new Frac(o.above.negate(), o.below));
        }

        Frac times(Frac o) {
            return of(above.multiply(o.above), below.multiply(o.below));
        }

        @Override
        public int compareTo(Frac o) {
            return above.multiply(o.below).compareTo(o.above.multiply(below));
        }
    }

    private static final class Fig {
        int kind;
        int[] held;
        Frac miss;
        Frac[] middle;
        BigInteger[] way;
    }

    /** What the document says, in the plainest form. */
    private static final class Model {
        final List<List<int[]>> parts = new ArrayList<>();
        final int[][] grid = new int[9][2];
        final Object[] sheets = new Object[4];
        final Fig[] figures = new Fig[6];
        final List<int[]> corners = new ArrayList<>();
        final List<int[]> boxes = new ArrayList<>();
        BigInteger[][] frame;
        int[] begin;
        long findings;

        Model() {
            for (int k = 0; k < 4; k++) {
                parts.add(new ArrayList<>());
            }
        }

        long count(long answer) {
            if (answer < LOW) {
                findings++;
            }
            return answer;
        }

        private static boolean in(int v, int least, int most) {
            return least <= v && v <= most;
        }

        private boolean noPoint(int part, int i) {
            return !in(part, 0, 3) || !in(i, 0, parts.get(part).size() - 1);
        }

        long point(int part, int x, int y, int z) {
            if (!in(part, 0, 3) || !in(x, -300, 300) || !in(y, -300, 300) || !in(z, -300, 300)) {
                return BEYOND;
            }
            if (parts.get(part).size() == 16) {
                return FULL;
            }
            parts.get(part).add(new int[] {x, y, z});
            return parts.get(part).size();
        }

        long miss(int part) {
            if (!in(part, 0, 3)) {
                return BEYOND;
            }
            if (parts.get(part).size() == 16) {
                return FULL;
            }
            parts.get(part).add(null);
            return parts.get(part).size();
        }

        long clear(int part) {
            if (!in(part, 0, 3)) {
                return BEYOND;
            }
            int had = parts.get(part).size();
            parts.get(part).clear();
            return had;
        }

        long at(int part, int i, int what) {
            if (noPoint(part, i) || !in(what, 0, 2)) {
                return BEYOND;
            }
            int[] p = parts.get(part).get(i);
            return p == null ? MISSED : p[what];
        }

        long points(int part, boolean touched) {
            if (!in(part, 0, 3)) {
                return BEYOND;
            }
            return touched ? touched(part).size() : parts.get(part).size();
        }

        /** The numbers of the points that are not MISSED. */
        private List<Integer> touched(int part) {
            List<Integer> numbers = new ArrayList<>();
            for (int i = 0; i < parts.get(part).size(); i++) {
                if (parts.get(part).get(i) != null) {
                    numbers.add(i);
                }
            }
            return numbers;
        }

        long mend(int part) {
            if (!in(part, 0, 3)) {
                return BEYOND;
            }
            int changed = 0;
            for (int i : touched(part)) {
                int[] p = parts.get(part).get(i);
                int nx = Math.max(-300, Math.min(300, p[0] - offset(p[0], p[1], 0)));
                int ny = Math.max(-300, Math.min(300, p[1] - offset(p[0], p[1], 1)));
                if (nx != p[0] || ny != p[1]) {
                    changed++;
                }
                parts.get(part).set(i, new int[] {nx, ny, p[2]});
            }
            return changed;
        }

        /** Summed over all nine corners, each weighed by a tent: 0 from 300 on. */
        private int offset(int x, int y, int which) {
            long sum = 0;
            for (int c = 0; c < 9; c++) {
                long wx = Math.max(0, 300 - Math.abs(x - (-300 + 300 * (c % 3))));
                long wy = Math.max(0, 300 - Math.abs(y - (-300 + 300 * (c / 3))));
                sum += wx * wy * grid[c][which];
            }
            long cut = sum / 90000;
            return (int) (cut * 90000 > sum ? cut - 1 : cut);
        }

        long grid(int corner, int x, int y) {
            if (!in(corner, 0, 8) || !in(x, -50, 50) || !in(y, -50, 50)) {
                return BEYOND;
            }
            grid[corner] = new int[] {x, y};
            return 1;
        }

        long off(int x, int y, boolean ofY) {
            return !in(x, -300, 300) || !in(y, -300, 300) ? BEYOND : offset(x, y, ofY ? 1 : 0);
        }

        long apart(int part, int other, int what) {
            if (!in(part, 0, 3) || !in(other, 0, 3) || !in(what, 0, 1)) {
                return BEYOND;
            }
            long best = -1;
            int first = -1;
            List<Integer> others = touched(other);
            for (int i : touched(part)) {
                if (others.contains(i)) {
                    long square = 0;
                    for (int k = 0; k < 3; k++) {
                        long d = parts.get(part).get(i)[k] - parts.get(other).get(i)[k];
                        square += d * d;
                    }
                    if (first < 0 || square > best) {
                        best = square;
                        first = i;
                    }
                }
            }
            return first < 0 ? NONE : what == 0 ? best : first;
        }

        private static int length(Object sheet) {
            return sheet instanceof short[] s ? s.length : sheet instanceof int[] n ? n.length : ((double[]) sheet).length;
        }

        long sheet(int s, int kind, int n) {
            if (!in(s, 0, 3) || !in(kind, 0, 3)) {
                return BEYOND;
            }
            if (n < 0) {
                return SIZE;
            }
            if (n > 48) {
                return BEYOND;
            }
            sheets[s] = kind == 0 ? null : kind == 1 ? new short[n] : kind == 2 ? new int[n] : new double[n];
            return kind == 0 ? 0 : n;
        }

        long put(int s, int i, int v) {
            if (!in(s, 0, 3)) {
                return BEYOND;
            }
            if (sheets[s] == null) {
                return MISSING;
            }
            if (!in(i, 0, length(sheets[s]) - 1)) {
                return BEYOND;
            }
            if (sheets[s] instanceof short[] row) {
                row[i] = (short) v;
            } else if (sheets[s] instanceof int[] row) {
                row[i] = v;
            } else {
                ((double[]) sheets[s])[i] = v;
            }
            return 0;
        }

        long bits(int s, int i, long v) {
            if (!in(s, 0, 3)) {
                return BEYOND;
            }
            if (sheets[s] == null) {
                return MISSING;
            }
            if (!(sheets[s] instanceof double[] row)) {
                return KIND;
            }
            if (!in(i, 0, row.length - 1)) {
                return BEYOND;
            }
            row[i] = Double.longBitsToDouble(v);
            return 0;
        }

        long copy(int s, int from, int t, int to, int n) {
            if (!in(s, 0, 3) || !in(t, 0, 3)) {
                return BEYOND;
            }
            if (sheets[s] == null || sheets[t] == null) {
                return MISSING;
            }
            if (sheets[s].getClass() != sheets[t].getClass()) {
                return KIND;
            }
            if (from < 0 || to < 0 || n < 0
                || (long) from + n > length(sheets[s]) || (long) to + n > length(sheets[t])) {
                return BEYOND;
            }
            System.arraycopy(sheets[s], from, sheets[t], to, n);
            return n;
        }

        private static double number(Object sheet, int i) {
            return sheet instanceof short[] s ? s[i] : sheet instanceof int[] n ? n[i] : ((double[]) sheet)[i];
        }

        long lay(int part, int s) {
            if (!in(part, 0, 3) || !in(s, 0, 3)) {
                return BEYOND;
            }
            if (sheets[s] == null) {
                return MISSING;
            }
            int threes = length(sheets[s]) / 3;
            if (parts.get(part).size() + threes > 16) {
                return FULL;
            }
            int touched = 0;
            for (int k = 0; k < threes; k++) {
                int[] p = new int[3];
                boolean good = true;
                for (int c = 0; c < 3; c++) {
                    double v = number(sheets[s], 3 * k + c);
                    good = good && v >= -300 && v <= 300 && v == Math.rint(v);
                    p[c] = (int) v;
                }
                parts.get(part).add(good ? p : null);
                touched += good ? 1 : 0;
            }
            return touched;
        }

        long fit(int f, int kind, int part) {
            if (!in(f, 0, 5) || !in(part, 0, 3) || kind != 2 && kind != 3 && kind != 5) {
                return BEYOND;
            }
            Fig fig = kind == 2 ? line(part) : kind == 3 ? plane(part) : circle(part);
            if (fig == null) {
                return NONE;
            }
            fig.kind = kind;
            figures[f] = fig;
            return fig.held.length;
        }

        private static BigInteger[] lowest(BigInteger... v) {
            BigInteger common = v[0].gcd(v[1]).gcd(v[2]);
            return new BigInteger[] {v[0].divide(common), v[1].divide(common), v[2].divide(common)};
        }

        private static BigInteger[] firstAbove0(long x, long y, long z) {
            BigInteger[] v = lowest(BigInteger.valueOf(x), BigInteger.valueOf(y), BigInteger.valueOf(z));
            for (BigInteger n : v) {
                if (n.signum() != 0) {
                    return n.signum() > 0 ? v : new BigInteger[] {v[0].negate(), v[1].negate(), v[2].negate()};
                }
            }
            return v;
        }

        private Fig line(int part) {
            List<int[]> all = parts.get(part);
            Fig best = null;
            for (int i : touched(part)) {
                for (int k : touched(part)) {
                    long dx = k > i ? all.get(k)[0] - all.get(i)[0] : 0;
                    long dy = k > i ? all.get(k)[1] - all.get(i)[1] : 0;
                    if (dx == 0 && dy == 0) {
                        continue;
                    }
                    int high = -1;
                    int low = -1;
                    long greatest = Long.MIN_VALUE;
                    long least = Long.MAX_VALUE;
                    for (int p : touched(part)) {
                        long cross = dx * (all.get(p)[1] - all.get(i)[1]) - dy * (all.get(p)[0] - all.get(i)[0]);
                        if (cross > greatest) {
                            greatest = cross;
                            high = p;
                        }
                        if (cross < least) {
                            least = cross;
                            low = p;
                        }
                    }
                    BigInteger width = BigInteger.valueOf(greatest - least);
                    Frac miss = Frac.of(width.multiply(width), BigInteger.valueOf(dx * dx + dy * dy));
                    if (best == null || miss.compareTo(best.miss) < 0) {
                        best = new Fig();
                        best.miss = miss;
                        best.held = new int[] {i, k, high, low};
                        best.way = firstAbove0(dx, dy, 0);
                    }
                }
            }
            return best;
        }

        private Fig plane(int part) {
            List<int[]> pairs = new ArrayList<>();
            for (int i : touched(part)) {
                for (int k : touched(part)) {
                    if (i < k) {
                        pairs.add(new int[] {i, k});
                    }
                }
            }
            Fig best = null;
            for (int a = 0; a < pairs.size(); a++) {
                for (int b = a + 1; b < pairs.size(); b++) {
                    Fig fig = planeOf(part, pairs.get(a), pairs.get(b));
                    if (fig != null && (best == null || fig.miss.compareTo(best.miss) < 0)) {
                        best = fig;
                    }
                }
            }
            return best;
        }

        private Fig planeOf(int part, int[] one, int[] two) {
            long[] d = from(part, one[0], one[1]);
            long[] e = from(part, two[0], two[1]);
            long nx = d[1] * e[2] - d[2] * e[1];
            long ny = d[2] * e[0] - d[0] * e[2];
            long nz = d[0] * e[1] - d[1] * e[0];
            if (nx == 0 && ny == 0 && nz == 0) {
                return null;
            }
            int high = -1;
            int low = -1;
            long greatest = Long.MIN_VALUE;
            long least = Long.MAX_VALUE;
            for (int p : touched(part)) {
                long[] v = from(part, one[0], p);
                long cross = nx * v[0] + ny * v[1] + nz * v[2];
                if (cross > greatest) {
                    greatest = cross;
                    high = p;
                }
                if (cross < least) {
                    least = cross;
                    low = p;
                }
            }
            Fig fig = new Fig();
            BigInteger width = BigInteger.valueOf(greatest - least);
            fig.miss = Frac.of(width.multiply(width), BigInteger.valueOf(nx * nx + ny * ny + nz * nz));
            fig.held = new int[] {one[0], one[1], two[0], two[1], high, low};
            fig.way = firstAbove0(nx, ny, nz);
            return fig;
        }

        private long[] from(int part, int i, int k) {
            int[] a = parts.get(part).get(i);
            int[] b = parts.get(part).get(k);
            return new long[] {b[0] - a[0], b[1] - a[1], b[2] - a[2]};
        }

        private static Frac square(Frac[] middle, int[] p) {
            Frac dx = middle[0].minus(Frac.of(p[0]));
            Frac dy = middle[1].minus(Frac.of(p[1]));
            return dx.times(dx).plus(dy.times(dy));
        }

        /** Every middle of a pair and of three is tried; the least circle that has no point outside is it. */
        private Fig circle(int part) {
            List<int[]> all = parts.get(part);
            List<Integer> t = touched(part);
            Fig best = null;
            for (int i : t) {
                for (int j : t) {
                    if (j >= i) {
                        Frac[] half = {Frac.of(all.get(i)[0] + all.get(j)[0], 2), Frac.of(all.get(i)[1] + all.get(j)[1], 2)};
                        best = lesser(best, half, all, t, i);
                    }
                    for (int k : t) {
                        if (i < j && j < k) {
                            best = lesser(best, middleOf(all.get(i), all.get(j), all.get(k)), all, t, i);
                        }
                    }
                }
            }
            if (best != null) {
                best.held = circleHeld(best, all, t);
            }
            return best;
        }

        private static Fig lesser(Fig best, Frac[] middle, List<int[]> all, List<Integer> t, int on) {
            if (middle == null) {
                return best;
            }
            Frac square = square(middle, all.get(on));
            if (best != null && square.compareTo(best.miss) >= 0) {
                return best;
            }
            for (int p : t) {
                if (square(middle, all.get(p)).compareTo(square) > 0) {
                    return best;
                }
            }
            Fig fig = new Fig();
            fig.miss = square;
            fig.middle = middle;
            return fig;
        }

        /** By Cramer from 2 (b - a) m = b b - a a, 2 (c - a) m = c c - a a. */
        private static Frac[] middleOf(int[] a, int[] b, int[] c) {
            long a1 = 2L * (b[0] - a[0]);
            long b1 = 2L * (b[1] - a[1]);
            long a2 = 2L * (c[0] - a[0]);
            long b2 = 2L * (c[1] - a[1]);
            long s = (long) a[0] * a[0] + (long) a[1] * a[1];
            long r1 = (long) b[0] * b[0] + (long) b[1] * b[1] - s;
            long r2 = (long) c[0] * c[0] + (long) c[1] * c[1] - s;
            long det = a1 * b2 - a2 * b1;
            return det == 0 ? null : new Frac[] {Frac.of(r1 * b2 - r2 * b1, det), Frac.of(a1 * r2 - a2 * r1, det)};
        }

        private static int[] circleHeld(Fig fig, List<int[]> all, List<Integer> t) {
            if (fig.miss.above().signum() == 0) {
                return new int[] {t.get(0)};
            }
            for (int i : t) {
                for (int k : t) {
                    if (i < k && fig.middle[0].equals(Frac.of(all.get(i)[0] + all.get(k)[0], 2))
                        && fig.middle[1].equals(Frac.of(all.get(i)[1] + all.get(k)[1], 2))
                        && square(fig.middle, all.get(i)).equals(fig.miss)) {
                        return new int[] {i, k};
                    }
                }
            }
            for (int i : t) {
                for (int j : t) {
                    for (int k : t) {
                        if (i < j && j < k) {
                            Frac[] m = middleOf(all.get(i), all.get(j), all.get(k));
                            if (m != null && m[0].equals(fig.middle[0]) && m[1].equals(fig.middle[1])
                                && square(m, all.get(i)).equals(fig.miss)) {
                                return new int[] {i, j, k};
                            }
                        }
                    }
                }
            }
            throw new IllegalStateException("no three");
        }

        long drop(int f) {
            if (!in(f, 0, 5)) {
                return BEYOND;
            }
            long was = figures[f] == null ? 0 : 1;
            figures[f] = null;
            return was;
        }

        private static boolean under(int kind, int wanted) {
            return switch (wanted) {
                case 0 -> true;
                case 1 -> kind == 2 || kind == 3;
                case 4 -> kind == 5;
                default -> kind == wanted;
            };
        }

        long as(int f, int kind) {
            if (!in(f, 0, 5) || !in(kind, 0, 5)) {
                return BEYOND;
            }
            return figures[f] == null ? NONE : under(figures[f].kind, kind) ? figures[f].kind : KIND;
        }

        long held(int f, int i) {
            if (!in(f, 0, 5)) {
                return BEYOND;
            }
            return figures[f] == null || !in(i, 0, figures[f].held.length - 1) ? NONE : figures[f].held[i];
        }

        private static long side(Frac v, boolean below) {
            return (below ? v.below() : v.above()).longValueExact();
        }

        long missOf(int f, boolean below) {
            if (!in(f, 0, 5)) {
                return BEYOND;
            }
            return figures[f] == null ? NONE : side(figures[f].miss, below);
        }

        long way(int f, int number) {
            if (!in(f, 0, 5) || !in(number, 0, 2)) {
                return BEYOND;
            }
            return figures[f] == null ? NONE : figures[f].way == null ? KIND : figures[f].way[number].longValueExact();
        }

        long middle(int f, boolean y, boolean below) {
            if (!in(f, 0, 5)) {
                return BEYOND;
            }
            return figures[f] == null ? NONE : figures[f].middle == null ? KIND
                : side(figures[f].middle[y ? 1 : 0], below);
        }

        private boolean keeps(Fig fig, int t) {
            Frac asked = fig.kind == 5 ? fig.miss.times(Frac.of(4)) : fig.miss;
            return asked.compareTo(Frac.of((long) t * t)) <= 0;
        }

        long ask(int f, int t) {
            if (!in(f, 0, 5) || !in(t, 0, 2000)) {
                return BEYOND;
            }
            return figures[f] == null ? NONE : keeps(figures[f], t) ? 1 : 0;
        }

        long level(int f) {
            if (!in(f, 0, 5)) {
                return BEYOND;
            }
            if (figures[f] == null) {
                return NONE;
            }
            int t = 0;
            while (!keeps(figures[f], t)) {
                t++;
            }
            return t;
        }

        long more(int f, int t, int circle, int size) {
            if (!in(f, 0, 5) || !in(circle, 0, 5) || !in(t, 0, 2000) || !in(size, 0, 2000)) {
                return BEYOND;
            }
            if (figures[f] == null || figures[circle] == null) {
                return NONE;
            }
            if (figures[f].kind == 5 || figures[circle].kind != 5) {
                return KIND;
            }
            // The greatest whole number d for which the diameter and d are at most the size.
            int bonus = 0;
            while (bonus < size && keeps(figures[circle], size - bonus - 1)) {
                bonus++;
            }
            return keeps(figures[f], t + bonus) ? 1 : 0;
        }

        long frame(int f, int x, int y, int z, int part, int i) {
            if (!in(f, 0, 5) || noPoint(part, i) || !in(x, -100, 100) || !in(y, -100, 100) || !in(z, -100, 100)) {
                return BEYOND;
            }
            if (figures[f] == null) {
                return NONE;
            }
            if (figures[f].kind != 3) {
                return KIND;
            }
            if (parts.get(part).get(i) == null) {
                return MISSED;
            }
            BigInteger[] n = figures[f].way;
            BigInteger[] d = {BigInteger.valueOf(x), BigInteger.valueOf(y), BigInteger.valueOf(z)};
            BigInteger length = product(n, n);
            BigInteger along = product(n, d);
            BigInteger[] second = new BigInteger[3];
            BigInteger[] third = new BigInteger[3];
            for (int c = 0; c < 3; c++) {
                second[c] = d[c].multiply(length).subtract(n[c].multiply(along));
                third[c] = n[(c + 1) % 3].multiply(d[(c + 2) % 3]).subtract(n[(c + 2) % 3].multiply(d[(c + 1) % 3]));
            }
            if (product(second, second).signum() == 0) {
                return SIZE;
            }
            frame = new BigInteger[][] {n, lowest(second), lowest(third)};
            begin = parts.get(part).get(i);
            return 1;
        }

        private static BigInteger product(BigInteger[] a, BigInteger[] b) {
            return a[0].multiply(b[0]).add(a[1].multiply(b[1])).add(a[2].multiply(b[2]));
        }

        long axis(int way, int number) {
            if (!in(way, 0, 2) || !in(number, 0, 2)) {
                return BEYOND;
            }
            return frame == null ? NONE : frame[way][number].longValueExact();
        }

        long inFrame(int part, int i, int way) {
            if (noPoint(part, i) || !in(way, 0, 2)) {
                return BEYOND;
            }
            int[] p = parts.get(part).get(i);
            if (p == null) {
                return MISSED;
            }
            if (frame == null) {
                return NONE;
            }
            BigInteger[] v = new BigInteger[3];
            for (int c = 0; c < 3; c++) {
                v[c] = BigInteger.valueOf(p[c] - begin[c]);
            }
            return product(frame[way], v).longValueExact();
        }

        long corner(int x, int y) {
            if (!in(x, -300, 300) || !in(y, -300, 300)) {
                return BEYOND;
            }
            int n = corners.size();
            if (n > 0 && corners.get(n - 1)[0] == x && corners.get(n - 1)[1] == y) {
                return SIZE;
            }
            if (n == 10) {
                return FULL;
            }
            corners.add(new int[] {x, y});
            return n + 1;
        }

        long open() {
            int had = corners.size();
            corners.clear();
            return had;
        }

        /** The foot on the piece, held between its ends, then how far it is. */
        private Frac square(int[] p, int k) {
            int[] a = corners.get(k);
            int[] b = corners.get((k + 1) % corners.size());
            long dx = b[0] - a[0];
            long dy = b[1] - a[1];
            Frac t = Frac.of(0);
            if (dx != 0 || dy != 0) {
                t = Frac.of(dx * (p[0] - a[0]) + dy * (p[1] - a[1]), dx * dx + dy * dy);
                t = t.compareTo(Frac.of(0)) < 0 ? Frac.of(0) : t.compareTo(Frac.of(1)) > 0 ? Frac.of(1) : t;
            }
            return square(new Frac[] {Frac.of(a[0]).plus(t.times(Frac.of(dx))), Frac.of(a[1]).plus(t.times(Frac.of(dy)))}, p);
        }

        private int nearestPiece(int[] p) {
            int best = 0;
            for (int k = 1; k < corners.size(); k++) {
                if (square(p, k).compareTo(square(p, best)) < 0) {
                    best = k;
                }
            }
            return best;
        }

        long nearest(int part, int i) {
            if (noPoint(part, i)) {
                return BEYOND;
            }
            int[] p = parts.get(part).get(i);
            return p == null ? MISSED : corners.size() < 2 ? NONE : nearestPiece(p);
        }

        long far(int part, int i, boolean below) {
            if (noPoint(part, i)) {
                return BEYOND;
            }
            int[] p = parts.get(part).get(i);
            return p == null ? MISSED : corners.size() < 2 ? NONE : side(square(p, nearestPiece(p)), below);
        }

        long box(int a, int b, int c, int dx, int dy, int dz) {
            int[] from = {a, b, c};
            int[] size = {dx, dy, dz};
            int[] box = new int[6];
            for (int k = 0; k < 3; k++) {
                if (!in(from[k], -300, 300) || !in(size[k], 1, 300) || from[k] + size[k] > 300) {
                    return BEYOND;
                }
                box[k] = from[k];
                box[k + 3] = from[k] + size[k];
            }
            if (boxes.size() == 6) {
                return FULL;
            }
            boxes.add(box);
            return boxes.size() - 1;
        }

        long unbox() {
            int were = boxes.size();
            boxes.clear();
            return were;
        }

        private static boolean inside(int[] box, int[] p, int[] q, Frac t) {
            for (int c = 0; c < 3; c++) {
                Frac v = Frac.of(p[c]).plus(t.times(Frac.of(q[c] - p[c])));
                if (v.compareTo(Frac.of(box[c])) <= 0 || v.compareTo(Frac.of(box[c + 3])) >= 0) {
                    return false;
                }
            }
            return true;
        }

        /** Between two neighbours of the times at which a face's plane is met nothing changes: each middle is tried. */
        private static boolean into(int[] box, int[] p, int[] q) {
            List<Frac> times = new ArrayList<>(List.of(Frac.of(0), Frac.of(1)));
            for (int c = 0; c < 6; c++) {
                int d = q[c % 3] - p[c % 3];
                if (d != 0) {
                    Frac t = Frac.of(box[c] - p[c % 3], d);
                    if (t.compareTo(Frac.of(0)) > 0 && t.compareTo(Frac.of(1)) < 0) {
                        times.add(t);
                    }
                }
            }
            times.sort(null);
            for (int k = 0; k < times.size(); k++) {
                if (inside(box, p, q, times.get(k))) {
                    return true;
                }
                if (k > 0 && inside(box, p, q, times.get(k - 1).plus(times.get(k)).times(Frac.of(1, 2)))) {
                    return true;
                }
            }
            return false;
        }

        private long firstBox(int[] p, int[] q) {
            for (int b = 0; b < boxes.size(); b++) {
                if (into(boxes.get(b), p, q)) {
                    return b;
                }
            }
            return -1;
        }

        long move(int part, int i, int k) {
            if (noPoint(part, i) || noPoint(part, k)) {
                return BEYOND;
            }
            int[] p = parts.get(part).get(i);
            int[] q = parts.get(part).get(k);
            return p == null || q == null ? MISSED : firstBox(p, q);
        }

        long path(int part) {
            if (!in(part, 0, 3)) {
                return BEYOND;
            }
            List<Integer> t = touched(part);
            for (int k = 0; k + 1 < t.size(); k++) {
                if (firstBox(parts.get(part).get(t.get(k)), parts.get(part).get(t.get(k + 1))) >= 0) {
                    return t.get(k);
                }
            }
            return -1;
        }

        long told(int what) {
            switch (what) {
                case 0: {
                    int count = 0;
                    for (Fig fig : figures) {
                        count += fig == null ? 0 : 1;
                    }
                    return count;
                }
                case 1: return corners.size();
                case 2: return boxes.size();
                case 3: return findings;
                default: return BEYOND;
            }
        }
    }
}
