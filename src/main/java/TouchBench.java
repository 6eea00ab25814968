/**
 * A house for parts measured by touch: their points, the figures fitted to them, a frame, an outline and boxes.
 * Every row is made in a constructor and used again, so that no call makes an object.
 */
public final class TouchBench {
    private static final long LOW = -1000000000000000000L;
    private static final long BEYOND = LOW - 1;
    private static final long MISSING = LOW - 2;
    private static final long SIZE = LOW - 3;
    private static final long KIND = LOW - 4;
    private static final long FULL = LOW - 5;
    private static final long NONE = LOW - 6;
    private static final long MISSED = LOW - 7;

    private static final int PARTS = 4;
    private static final int POINTS = 16;
    private static final int SHEETS = 4;
    private static final int NUMBERS = 48;
    private static final int FIGURES = 6;
    private static final int HELD = 6;
    private static final int CORNERS = 10;
    private static final int BOXES = 6;
    private static final int FAR = 300;
    private static final int GRID_CORNERS = 9;
    private static final int GRID_MOST = 50;
    private static final int DIRECTION_MOST = 100;
    private static final int ASK_MOST = 2000;

    private static final int NO_KIND = -1;
    private static final int FLAT = 1;
    private static final int LINE = 2;
    private static final int PLANE = 3;
    private static final int ROUND = 4;
    private static final int CIRCLE = 5;
    /** The kind that each kind is under. */
    private static final int[] UNDER = {-1, 0, 1, 1, 0, 4};

    private static final int SHORTS = 1;
    private static final int DOUBLES = 3;

    private final Part[] parts = new Part[PARTS];
    private final Sheet[] sheets = new Sheet[SHEETS];
    private final Figure[] figures = new Figure[FIGURES];
    private final Grid arm = new Grid();
    private final FlatFit flatFit = new FlatFit();
    private final CircleFit circleFit = new CircleFit();
    private final Frame theFrame = new Frame();
    private final Outline outline = new Outline();
    private final Boxes boxes = new Boxes();
    private long findings;

    public TouchBench() {
        for (int i = 0; i < PARTS; i++) {
            parts[i] = new Part();
        }
        for (int i = 0; i < SHEETS; i++) {
            sheets[i] = new Sheet();
        }
        for (int i = 0; i < FIGURES; i++) {
            figures[i] = new Figure();
        }
    }

    // ---- points

    public long point(int part, int x, int y, int z) {
        if (!isPart(part) || !isPlace(x, y) || !isWithin(z, -FAR, FAR)) {
            return found(BEYOND);
        }
        if (parts[part].room() < 1) {
            return found(FULL);
        }
        return parts[part].add(x, y, z);
    }

    public long miss(int part) {
        if (!isPart(part)) {
            return found(BEYOND);
        }
        if (parts[part].room() < 1) {
            return found(FULL);
        }
        return parts[part].addMissed();
    }

    public long clear(int part) {
        if (!isPart(part)) {
            return found(BEYOND);
        }
        return parts[part].empty();
    }

    public long at(int part, int i, int what) {
        if (!isPoint(part, i) || !isWithin(what, 0, 2)) {
            return found(BEYOND);
        }
        Part of = parts[part];
        if (of.missed[i]) {
            return found(MISSED);
        }
        return what == 0 ? of.x[i] : what == 1 ? of.y[i] : of.z[i];
    }

    public long points(int part, boolean touched) {
        if (!isPart(part)) {
            return found(BEYOND);
        }
        return touched ? parts[part].touchedCount() : parts[part].count;
    }

    public long mend(int part) {
        if (!isPart(part)) {
            return found(BEYOND);
        }
        Part of = parts[part];
        int changed = 0;
        for (int i = 0; i < of.count; i++) {
            if (!of.missed[i] && mendPoint(of, i)) {
                changed++;
            }
        }
        return changed;
    }

    public long grid(int corner, int x, int y) {
        if (!isWithin(corner, 0, GRID_CORNERS - 1)
                || !isWithin(x, -GRID_MOST, GRID_MOST) || !isWithin(y, -GRID_MOST, GRID_MOST)) {
            return found(BEYOND);
        }
        arm.ofX[corner] = x;
        arm.ofY[corner] = y;
        return 1;
    }

    public long off(int x, int y, boolean ofY) {
        if (!isPlace(x, y)) {
            return found(BEYOND);
        }
        return Grid.tooGreat(ofY ? arm.ofY : arm.ofX, x, y);
    }

    public long apart(int part, int other, int what) {
        if (!isPart(part) || !isPart(other) || !isWithin(what, 0, 1)) {
            return found(BEYOND);
        }
        int both = Math.min(parts[part].count, parts[other].count);
        long greatest = -1;
        int first = 0;
        for (int i = 0; i < both; i++) {
            long square = squareApart(parts[part], parts[other], i);
            if (square > greatest) {
                greatest = square;
                first = i;
            }
        }
        if (greatest < 0) {
            return found(NONE);
        }
        return what == 0 ? greatest : first;
    }

    // ---- sheets

    public long sheet(int s, int kind, int n) {
        if (!isSheet(s) || !isWithin(kind, 0, DOUBLES)) {
            return found(BEYOND);
        }
        if (n < 0) {
            return found(SIZE);
        }
        if (n > NUMBERS) {
            return found(BEYOND);
        }
        return sheets[s].renew(kind, n);
    }

    public long put(int s, int i, int v) {
        if (!isSheet(s)) {
            return found(BEYOND);
        }
        Sheet on = sheets[s];
        if (on.isMissing()) {
            return found(MISSING);
        }
        if (!isWithin(i, 0, on.length - 1)) {
            return found(BEYOND);
        }
        on.numbers[i] = on.kind == SHORTS ? (short) v : v;
        return 0;
    }

    public long bits(int s, int i, long v) {
        if (!isSheet(s)) {
            return found(BEYOND);
        }
        Sheet on = sheets[s];
        if (on.isMissing()) {
            return found(MISSING);
        }
        if (on.kind != DOUBLES) {
            return found(KIND);
        }
        if (!isWithin(i, 0, on.length - 1)) {
            return found(BEYOND);
        }
        on.numbers[i] = Sheet.wholeOfBits(v);
        return 0;
    }

    public long copy(int s, int from, int t, int to, int n) {
        if (!isSheet(s) || !isSheet(t)) {
            return found(BEYOND);
        }
        Sheet source = sheets[s];
        Sheet target = sheets[t];
        if (source.isMissing() || target.isMissing()) {
            return found(MISSING);
        }
        if (source.kind != target.kind) {
            return found(KIND);
        }
        if (!source.hasRun(from, n) || !target.hasRun(to, n)) {
            return found(BEYOND);
        }
        System.arraycopy(source.numbers, from, target.numbers, to, n);
        return n;
    }

    public long lay(int part, int s) {
        if (!isPart(part) || !isSheet(s)) {
            return found(BEYOND);
        }
        if (sheets[s].isMissing()) {
            return found(MISSING);
        }
        if (sheets[s].length / 3 > parts[part].room()) {
            return found(FULL);
        }
        return layPoints(parts[part], sheets[s]);
    }

    // ---- figures

    public long fit(int f, int kind, int part) {
        if (!isFigure(f) || !isPart(part) || (kind != LINE && kind != PLANE && kind != CIRCLE)) {
            return found(BEYOND);
        }
        boolean fitted = kind == LINE ? flatFit.fitLine(parts[part], figures[f])
                : kind == PLANE ? flatFit.fitPlane(parts[part], figures[f])
                : circleFit.fitCircle(parts[part], figures[f]);
        if (!fitted) {
            return found(NONE);
        }
        return figures[f].heldCount;
    }

    public long drop(int f) {
        if (!isFigure(f)) {
            return found(BEYOND);
        }
        boolean was = figures[f].isOne();
        figures[f].kind = NO_KIND;
        return was ? 1 : 0;
    }

    public long as(int f, int kind) {
        if (!isFigure(f) || !isWithin(kind, 0, CIRCLE)) {
            return found(BEYOND);
        }
        if (!figures[f].isOne()) {
            return found(NONE);
        }
        if (!figures[f].isOfKind(kind)) {
            return found(KIND);
        }
        return figures[f].kind;
    }

    public long held(int f, int i) {
        if (!isFigure(f)) {
            return found(BEYOND);
        }
        if (!figures[f].isOne() || !isWithin(i, 0, figures[f].heldCount - 1)) {
            return found(NONE);
        }
        return figures[f].holders[i];
    }

    public long missOf(int f, boolean below) {
        if (!isFigure(f)) {
            return found(BEYOND);
        }
        if (!figures[f].isOne()) {
            return found(NONE);
        }
        return figures[f].missSquare.side(below);
    }

    public long way(int f, int number) {
        if (!isFigure(f) || !isWithin(number, 0, 2)) {
            return found(BEYOND);
        }
        if (!figures[f].isOne()) {
            return found(NONE);
        }
        if (!figures[f].isOfKind(FLAT)) {
            return found(KIND);
        }
        return figures[f].direction[number];
    }

    public long middle(int f, boolean y, boolean below) {
        if (!isFigure(f)) {
            return found(BEYOND);
        }
        if (!figures[f].isOne()) {
            return found(NONE);
        }
        if (!figures[f].isOfKind(ROUND)) {
            return found(KIND);
        }
        return (y ? figures[f].middleY : figures[f].middleX).side(below);
    }

    // ---- asks

    public long ask(int f, int t) {
        if (!isFigure(f) || !isWithin(t, 0, ASK_MOST)) {
            return found(BEYOND);
        }
        if (!figures[f].isOne()) {
            return found(NONE);
        }
        return figures[f].keeps(t) ? 1 : 0;
    }

    public long level(int f) {
        if (!isFigure(f)) {
            return found(BEYOND);
        }
        if (!figures[f].isOne()) {
            return found(NONE);
        }
        return figures[f].leastKept();
    }

    public long more(int f, int t, int circle, int size) {
        if (!isFigure(f) || !isFigure(circle)
                || !isWithin(t, 0, ASK_MOST) || !isWithin(size, 0, ASK_MOST)) {
            return found(BEYOND);
        }
        if (!figures[f].isOne() || !figures[circle].isOne()) {
            return found(NONE);
        }
        if (!figures[f].isOfKind(FLAT) || !figures[circle].isOfKind(ROUND)) {
            return found(KIND);
        }
        // A size less a diameter, rounded down, is the size less the diameter rounded up.
        int bonus = Math.max(0, size - figures[circle].leastKept());
        return figures[f].leastKept() <= t + bonus ? 1 : 0;
    }

    // ---- frames

    public long frame(int f, int x, int y, int z, int part, int i) {
        if (!isFigure(f) || !isPoint(part, i) || !isDirection(x, y, z)) {
            return found(BEYOND);
        }
        if (!figures[f].isOne()) {
            return found(NONE);
        }
        if (figures[f].kind != PLANE) {
            return found(KIND);
        }
        if (parts[part].missed[i]) {
            return found(MISSED);
        }
        if (!theFrame.layWays(figures[f].direction, x, y, z)) {
            return found(SIZE);
        }
        theFrame.begin(parts[part], i);
        return 1;
    }

    public long axis(int way, int number) {
        if (!isWithin(way, 0, 2) || !isWithin(number, 0, 2)) {
            return found(BEYOND);
        }
        if (!theFrame.laid) {
            return found(NONE);
        }
        return theFrame.ways[3 * way + number];
    }

    public long inFrame(int part, int i, int way) {
        if (!isPoint(part, i) || !isWithin(way, 0, 2)) {
            return found(BEYOND);
        }
        if (parts[part].missed[i]) {
            return found(MISSED);
        }
        if (!theFrame.laid) {
            return found(NONE);
        }
        return theFrame.along(way, parts[part], i);
    }

    // ---- the outline, boxes

    public long corner(int x, int y) {
        if (!isPlace(x, y)) {
            return found(BEYOND);
        }
        if (outline.endsAt(x, y)) {
            return found(SIZE);
        }
        if (outline.count >= CORNERS) {
            return found(FULL);
        }
        return outline.add(x, y);
    }

    public long open() {
        int had = outline.count;
        outline.count = 0;
        return had;
    }

    public long nearest(int part, int i) {
        long finding = outlineFinding(part, i);
        if (finding != 0) {
            return found(finding);
        }
        return outline.findNearest(parts[part].x[i], parts[part].y[i]);
    }

    public long far(int part, int i, boolean below) {
        long finding = outlineFinding(part, i);
        if (finding != 0) {
            return found(finding);
        }
        outline.findNearest(parts[part].x[i], parts[part].y[i]);
        return outline.least.side(below);
    }

    public long box(int a, int b, int c, int dx, int dy, int dz) {
        if (!isBoxSide(a, dx) || !isBoxSide(b, dy) || !isBoxSide(c, dz)) {
            return found(BEYOND);
        }
        if (boxes.count >= BOXES) {
            return found(FULL);
        }
        boxes.setSide(0, a, dx);
        boxes.setSide(1, b, dy);
        boxes.setSide(2, c, dz);
        boxes.count++;
        return boxes.count - 1;
    }

    public long unbox() {
        int were = boxes.count;
        boxes.count = 0;
        return were;
    }

    public long move(int part, int i, int k) {
        if (!isPoint(part, i) || !isPoint(part, k)) {
            return found(BEYOND);
        }
        if (parts[part].missed[i] || parts[part].missed[k]) {
            return found(MISSED);
        }
        return boxes.firstEntered(parts[part], i, k);
    }

    public long path(int part) {
        if (!isPart(part)) {
            return found(BEYOND);
        }
        Part of = parts[part];
        int from = -1;
        for (int k = 0; k < of.count; k++) {
            if (of.missed[k]) {
                continue;
            }
            if (from >= 0 && boxes.firstEntered(of, from, k) >= 0) {
                return from;
            }
            from = k;
        }
        return -1;
    }

    public long told(int what) {
        switch (what) {
            case 0:
                return figureCount();
            case 1:
                return outline.count;
            case 2:
                return boxes.count;
            case 3:
                return findings;
            default:
                return found(BEYOND);
        }
    }

    private long found(long finding) {
        findings++;
        return finding;
    }

    private static boolean isWithin(int number, int least, int most) {
        return number >= least && number <= most;
    }

    private static boolean isPlace(int x, int y) {
        return isWithin(x, -FAR, FAR) && isWithin(y, -FAR, FAR);
    }

    private static boolean isDirection(int x, int y, int z) {
        return isWithin(x, -DIRECTION_MOST, DIRECTION_MOST)
                && isWithin(y, -DIRECTION_MOST, DIRECTION_MOST)
                && isWithin(z, -DIRECTION_MOST, DIRECTION_MOST);
    }

    private static boolean isBoxSide(int from, int size) {
        return isWithin(from, -FAR, FAR) && isWithin(size, 1, FAR) && from + size <= FAR;
    }

    private static boolean isPart(int part) {
        return isWithin(part, 0, PARTS - 1);
    }

    private static boolean isSheet(int s) {
        return isWithin(s, 0, SHEETS - 1);
    }

    private static boolean isFigure(int f) {
        return isWithin(f, 0, FIGURES - 1);
    }

    private boolean isPoint(int part, int i) {
        return isPart(part) && isWithin(i, 0, parts[part].count - 1);
    }

    private boolean mendPoint(Part of, int i) {
        int x = of.x[i];
        int y = of.y[i];
        // Both are read at the place as it was told, so neither may be written before.
        of.x[i] = cut(x - Grid.tooGreat(arm.ofX, x, y));
        of.y[i] = cut(y - Grid.tooGreat(arm.ofY, x, y));
        return of.x[i] != x || of.y[i] != y;
    }

    private static int cut(int number) {
        return Math.max(-FAR, Math.min(FAR, number));
    }

    /** -1 where one of the two points is MISSED. */
    private static long squareApart(Part one, Part other, int i) {
        if (one.missed[i] || other.missed[i]) {
            return -1;
        }
        long dx = one.x[i] - other.x[i];
        long dy = one.y[i] - other.y[i];
        long dz = one.z[i] - other.z[i];
        return dx * dx + dy * dy + dz * dz;
    }

    private static int layPoints(Part part, Sheet sheet) {
        int touched = 0;
        for (int i = 0; i + 2 < sheet.length; i += 3) {
            int x = sheet.numbers[i];
            int y = sheet.numbers[i + 1];
            int z = sheet.numbers[i + 2];
            if (isPlace(x, y) && isWithin(z, -FAR, FAR)) {
                part.add(x, y, z);
                touched++;
            } else {
                part.addMissed();
            }
        }
        return touched;
    }

    /** What keeps nearest() and far() from an answer; 0 if nothing does. */
    private long outlineFinding(int part, int i) {
        if (!isPoint(part, i)) {
            return BEYOND;
        }
        if (parts[part].missed[i]) {
            return MISSED;
        }
        return outline.count < 2 ? NONE : 0;
    }

    private int figureCount() {
        int count = 0;
        for (int f = 0; f < FIGURES; f++) {
            if (figures[f].isOne()) {
                count++;
            }
        }
        return count;
    }

    /** A row of points, some of them MISSED. */
    private static final class Part {
        final int[] x = new int[POINTS];
        final int[] y = new int[POINTS];
        final int[] z = new int[POINTS];
        final boolean[] missed = new boolean[POINTS];
        int count;

        int room() {
            return POINTS - count;
        }

        int add(int px, int py, int pz) {
            if (count < POINTS) {
                x[count] = px;
                y[count] = py;
                z[count] = pz;
                missed[count] = false;
                count++;
            }
            return count;
        }

        int addMissed() {
            if (count < POINTS) {
                missed[count] = true;
                count++;
            }
            return count;
        }

        int empty() {
            int had = count;
            count = 0;
            return had;
        }

        int touchedCount() {
            int touched = 0;
            for (int i = 0; i < count; i++) {
                if (!missed[i]) {
                    touched++;
                }
            }
            return touched;
        }
    }

    /** The arm's own misses at nine places. */
    private static final class Grid {
        final int[] ofX = new int[GRID_CORNERS];
        final int[] ofY = new int[GRID_CORNERS];

        /** The place is within the bounds: the callers have looked. */
        static int tooGreat(int[] corners, int x, int y) {
            int column = x < 0 ? 0 : 1;
            int row = y < 0 ? 0 : 1;
            int u = x + FAR - FAR * column;
            int v = y + FAR - FAR * row;
            int least = 3 * row + column;
            int sum = corners[least] * (FAR - u) * (FAR - v)
                    + corners[least + 1] * u * (FAR - v)
                    + corners[least + 3] * (FAR - u) * v
                    + corners[least + 4] * u * v;
            return Math.floorDiv(sum, FAR * FAR);
        }
    }

    /** A row of numbers of one kind; only whole numbers can become points, so they alone are kept as they are. */
    private static final class Sheet {
        /** Stands for each double that can be no point's number; beyond the bounds of points itself. */
        static final int NO_WHOLE = FAR + 1;
        static final int FRACTION_BITS = 52;
        static final int EXPONENT_MASK = 2047;
        static final int EXPONENT_OF_ONE = 1023;
        /** Doubles of a greater exponent are 512 or more, or no numbers. */
        static final int MOST_EXPONENT = 8;

        final int[] numbers = new int[NUMBERS];
        int kind;
        int length;

        boolean isMissing() {
            return kind == 0;
        }

        int renew(int newKind, int n) {
            kind = newKind;
            length = newKind == 0 ? 0 : n;
            for (int i = 0; i < NUMBERS; i++) {
                numbers[i] = 0;
            }
            return length;
        }

        boolean hasRun(int from, int n) {
            return from >= 0 && n >= 0 && n <= length && from <= length - n;
        }

        static int wholeOfBits(long bits) {
            if (bits << 1 == 0) {
                return 0;
            }
            int exponent = (int) ((bits >>> FRACTION_BITS) & EXPONENT_MASK) - EXPONENT_OF_ONE;
            if (exponent < 0 || exponent > MOST_EXPONENT) {
                return NO_WHOLE;
            }
            long one = 1L << FRACTION_BITS;
            long digits = (bits & (one - 1)) | one;
            int behindPoint = FRACTION_BITS - exponent;
            long behind = digits & ((1L << behindPoint) - 1);
            if (behind != 0) {
                return NO_WHOLE;
            }
            int whole = (int) (digits >> behindPoint);
            return bits < 0 ? -whole : whole;
        }
    }

    /** A FRACTION in lowest terms, below it above 0. */
    private static final class Fraction {
        /** Euclid's way ends within 92 steps for all longs. */
        static final int STEPS = 100;

        private long above;
        private long below = 1;

        void become(long newAbove, long newBelow) {
            long common = commonMeasure(newAbove, newBelow);
            if (newBelow <= 0 || common == 0) {
                return;
            }
            above = newAbove / common;
            below = newBelow / common;
        }

        long side(boolean belowTheLine) {
            return belowTheLine ? below : above;
        }

        static long commonMeasure(long one, long other) {
            long a = Math.abs(one);
            long b = Math.abs(other);
            for (int step = 0; step < STEPS && b != 0; step++) {
                long rest = a % b;
                a = b;
                b = rest;
            }
            return a;
        }

        /**
         * Whether a by b is less than c by d, none below 0, b and d above it.
         * The whole parts are compared, then the rests turned over: products would not fit a long.
         */
        static boolean isLess(long a, long b, long c, long d) {
            for (int step = 0; step < STEPS; step++) {
                if (b == 0 || d == 0) {
                    return false;
                }
                long whole = a / b;
                long otherWhole = c / d;
                if (whole != otherWhole) {
                    return whole < otherWhole;
                }
                long rest = a - whole * b;
                long otherRest = c - otherWhole * d;
                if (rest == 0 || otherRest == 0) {
                    return rest < otherRest;
                }
                a = d;
                c = b;
                b = otherRest;
                d = rest;
            }
            return false;
        }

        /** Three numbers of a row, from one on, in lowest terms, signs as they are. */
        static void lower(long[] row, int from) {
            if (from < 0 || from > row.length - 3) {
                return;
            }
            long common = commonMeasure(commonMeasure(row[from], row[from + 1]), row[from + 2]);
            if (common == 0) {
                return;
            }
            for (int i = from; i < from + 3; i++) {
                row[i] /= common;
            }
        }
    }

    /** What a fit has left; nothing of it follows the part's later changes. */
    private static final class Figure {
        final int[] holders = new int[HELD];
        final long[] direction = new long[3];
        final Fraction missSquare = new Fraction();
        final Fraction middleX = new Fraction();
        final Fraction middleY = new Fraction();
        int kind = NO_KIND;
        int heldCount;

        boolean isOne() {
            return kind != NO_KIND;
        }

        boolean isOfKind(int wanted) {
            int above = kind;
            for (int step = 0; step < UNDER.length && above >= 0 && above < UNDER.length; step++) {
                if (above == wanted) {
                    return true;
                }
                above = UNDER[above];
            }
            return false;
        }

        boolean keeps(int t) {
            // A circle is asked by its diameter, twice the radius that its MISS is.
            long times = kind == CIRCLE ? 4 : 1;
            return times * missSquare.side(false) <= (long) t * t * missSquare.side(true);
        }

        /** No two points are farther apart than 1040, so no figure needs more than ASK_MOST. */
        int leastKept() {
            for (int t = 0; t < ASK_MOST; t++) {
                if (keeps(t)) {
                    return t;
                }
            }
            return ASK_MOST;
        }

        void setDirection(long x, long y, long z) {
            long sign = x < 0 || x == 0 && (y < 0 || y == 0 && z < 0) ? -1 : 1;
            direction[0] = sign * x;
            direction[1] = sign * y;
            direction[2] = sign * z;
            Fraction.lower(direction, 0);
        }
    }

    /** The points of a part that are not MISSED, in their order, with their numbers in the part. */
    private static final class Touched {
        final int[] x = new int[POINTS];
        final int[] y = new int[POINTS];
        final int[] z = new int[POINTS];
        final int[] number = new int[POINTS];
        int count;

        void gather(Part part) {
            count = 0;
            for (int i = 0; i < part.count; i++) {
                if (!part.missed[i]) {
                    x[count] = part.x[i];
                    y[count] = part.y[i];
                    z[count] = part.z[i];
                    number[count] = i;
                    count++;
                }
            }
        }

        boolean isOnePlace(int i, int k) {
            return x[i] == x[k] && y[i] == y[k];
        }
    }

    /**
     * The least MISS of a LINE or a PLANE. A LINE's CROSS is that of a NORMAL (-dy, dx, 0),
     * so both try one NORMAL after the other.
     */
    private static final class FlatFit {
        private final Touched points = new Touched();
        private final long[] normal = new long[3];
        private final long[] best = new long[3];
        private final int[] bestHeld = new int[HELD];
        private boolean any;
        private long bestSquare;
        private long bestLength;
        private int bestHigh;
        private int bestLow;

        boolean fitLine(Part part, Figure figure) {
            start(part);
            for (int i = 0; i < points.count; i++) {
                for (int k = i + 1; k < points.count; k++) {
                    normal[0] = points.y[i] - points.y[k];
                    normal[1] = points.x[k] - points.x[i];
                    normal[2] = 0;
                    if (isBetter(i)) {
                        hold(0, i, k);
                    }
                }
            }
            if (any) {
                figure.setDirection(best[1], -best[0], 0);
                finish(figure, LINE, 2);
            }
            return any;
        }

        boolean fitPlane(Part part, Figure figure) {
            start(part);
            for (int i = 0; i < points.count; i++) {
                for (int k = i + 1; k < points.count; k++) {
                    trySecondPairs(i, k);
                }
            }
            if (any) {
                figure.setDirection(best[0], best[1], best[2]);
                finish(figure, PLANE, 4);
            }
            return any;
        }

        private void start(Part part) {
            points.gather(part);
            any = false;
        }

        private void trySecondPairs(int i, int k) {
            for (int j = i; j < points.count; j++) {
                for (int l = j == i ? k + 1 : j + 1; l < points.count; l++) {
                    crossProduct(i, k, j, l);
                    if (isBetter(i)) {
                        hold(0, i, k);
                        hold(2, j, l);
                    }
                }
            }
        }

        private void crossProduct(int i, int k, int j, int l) {
            long dx = points.x[k] - points.x[i];
            long dy = points.y[k] - points.y[i];
            long dz = points.z[k] - points.z[i];
            long ex = points.x[l] - points.x[j];
            long ey = points.y[l] - points.y[j];
            long ez = points.z[l] - points.z[j];
            normal[0] = dy * ez - dz * ey;
            normal[1] = dz * ex - dx * ez;
            normal[2] = dx * ey - dy * ex;
        }

        /** Whether the NORMAL's MISS is less than the best so far; if so it is the best from then on. */
        private boolean isBetter(int from) {
            long length = normal[0] * normal[0] + normal[1] * normal[1] + normal[2] * normal[2];
            if (length == 0) {
                return false;
            }
            int high = 0;
            int low = 0;
            long greatest = crossOf(from, 0);
            long least = greatest;
            // A width only grows from point to point, so a NORMAL once beaten needs no further looks.
            boolean beaten = isBeaten(0, length);
            for (int p = 1; p < points.count && !beaten; p++) {
                long cross = crossOf(from, p);
                if (cross > greatest) {
                    greatest = cross;
                    high = p;
                    beaten = isBeaten(greatest - least, length);
                } else if (cross < least) {
                    least = cross;
                    low = p;
                    beaten = isBeaten(greatest - least, length);
                }
            }
            if (!beaten) {
                keepBest(greatest - least, length, high, low);
            }
            return !beaten;
        }

        private void keepBest(long width, long length, int high, int low) {
            bestSquare = width * width;
            bestLength = length;
            bestHigh = high;
            bestLow = low;
            System.arraycopy(normal, 0, best, 0, 3);
            any = true;
        }

        private long crossOf(int from, int p) {
            return normal[0] * (points.x[p] - points.x[from])
                    + normal[1] * (points.y[p] - points.y[from])
                    + normal[2] * (points.z[p] - points.z[from]);
        }

        /** Of equal MISSes the first is kept. */
        private boolean isBeaten(long width, long length) {
            return any && !Fraction.isLess(width * width, length, bestSquare, bestLength);
        }

        private void hold(int at, int i, int k) {
            if (at >= 0 && at + 1 < bestHeld.length) {
                bestHeld[at] = points.number[i];
                bestHeld[at + 1] = points.number[k];
            }
        }

        private void finish(Figure figure, int kind, int pairPoints) {
            hold(pairPoints, bestHigh, bestLow);
            figure.kind = kind;
            figure.heldCount = pairPoints + 2;
            System.arraycopy(bestHeld, 0, figure.holders, 0, HELD);
            figure.missSquare.become(bestSquare, bestLength);
        }
    }

    /** The least circle round points. Its middle is told from a point that lies on it, times a scale above 0. */
    private static final class CircleFit {
        private final Touched points = new Touched();
        private int anchor;
        private long middleX;
        private long middleY;
        private long scale;

        boolean fitCircle(Part part, Figure figure) {
            points.gather(part);
            if (points.count == 0) {
                return false;
            }
            return holdOnePlace(figure) || holdPair(figure) || holdThree(figure);
        }

        private boolean holdOnePlace(Figure figure) {
            for (int p = 1; p < points.count; p++) {
                if (!points.isOnePlace(0, p)) {
                    return false;
                }
            }
            setCircle(0, 0, 0, 1);
            figure.holders[0] = points.number[0];
            finish(figure, 1);
            return true;
        }

        /** A circle over a pair that has no point outside is the least one: none less goes round that pair. */
        private boolean holdPair(Figure figure) {
            for (int i = 0; i < points.count; i++) {
                for (int k = i + 1; k < points.count; k++) {
                    setCircle(i, points.x[k] - points.x[i], points.y[k] - points.y[i], 2);
                    if (hasNoneOutside()) {
                        figure.holders[0] = points.number[i];
                        figure.holders[1] = points.number[k];
                        finish(figure, 2);
                        return true;
                    }
                }
            }
            return false;
        }

        private boolean holdThree(Figure figure) {
            if (!findSharpThree()) {
                return false;
            }
            // Three unlike places of a circle tell it, so the first points on it hold it, sharp or blunt.
            int count = 0;
            for (int p = 0; p < points.count && count < 3; p++) {
                if (outside(p) == 0 && isNewPlace(p)) {
                    figure.holders[count] = points.number[p];
                    count++;
                }
            }
            finish(figure, count);
            return true;
        }

        /** Where no pair tells the least circle three points do that stand in a triangle with sharp corners alone. */
        private boolean findSharpThree() {
            for (int i = 0; i < points.count; i++) {
                for (int j = i + 1; j < points.count; j++) {
                    for (int k = j + 1; k < points.count; k++) {
                        if (isSharp(i, j, k) && isSharp(j, k, i) && isSharp(k, i, j)) {
                            setCircleOfThree(i, j, k);
                            if (hasNoneOutside()) {
                                return true;
                            }
                        }
                    }
                }
            }
            return false;
        }

        private boolean isSharp(int at, int one, int other) {
            long product = (long) (points.x[one] - points.x[at]) * (points.x[other] - points.x[at])
                    + (long) (points.y[one] - points.y[at]) * (points.y[other] - points.y[at]);
            return product > 0;
        }

        private boolean isNewPlace(int p) {
            for (int earlier = 0; earlier < p; earlier++) {
                if (points.isOnePlace(earlier, p)) {
                    return false;
                }
            }
            return true;
        }

        private void setCircle(int from, long x, long y, long times) {
            anchor = from;
            middleX = x;
            middleY = y;
            scale = times;
        }

        private void setCircleOfThree(int i, int j, int k) {
            long bx = points.x[j] - points.x[i];
            long by = points.y[j] - points.y[i];
            long cx = points.x[k] - points.x[i];
            long cy = points.y[k] - points.y[i];
            long b = bx * bx + by * by;
            long c = cx * cx + cy * cy;
            long turn = bx * cy - by * cx;
            long sign = turn < 0 ? -1 : 1;
            setCircle(i, sign * (cy * b - by * c), sign * (bx * c - cx * b), sign * 2 * turn);
        }

        /** Above 0 for a point outside of the circle, 0 on it, below 0 inside. */
        private long outside(int p) {
            long px = points.x[p] - points.x[anchor];
            long py = points.y[p] - points.y[anchor];
            return scale * (px * px + py * py) - 2 * (px * middleX + py * middleY);
        }

        private boolean hasNoneOutside() {
            for (int p = 0; p < points.count; p++) {
                if (outside(p) > 0) {
                    return false;
                }
            }
            return true;
        }

        private void finish(Figure figure, int heldCount) {
            figure.kind = CIRCLE;
            figure.heldCount = heldCount;
            figure.missSquare.become(middleX * middleX + middleY * middleY, scale * scale);
            figure.middleX.become(points.x[anchor] * scale + middleX, scale);
            figure.middleY.become(points.y[anchor] * scale + middleY, scale);
        }
    }

    /** Three ways, three numbers each, and a beginning. */
    private static final class Frame {
        final long[] ways = new long[9];
        boolean laid;
        private int beginX;
        private int beginY;
        private int beginZ;

        /** False, and nothing changes, where the direction goes along the first way or is 0. */
        boolean layWays(long[] first, int x, int y, int z) {
            long thirdX = first[1] * z - first[2] * y;
            long thirdY = first[2] * x - first[0] * z;
            long thirdZ = first[0] * y - first[1] * x;
            if (thirdX == 0 && thirdY == 0 && thirdZ == 0) {
                return false;
            }
            long length = first[0] * first[0] + first[1] * first[1] + first[2] * first[2];
            long product = first[0] * x + first[1] * y + first[2] * z;
            setWay(0, first[0], first[1], first[2]);
            setWay(1, x * length - first[0] * product, y * length - first[1] * product,
                    z * length - first[2] * product);
            setWay(2, thirdX, thirdY, thirdZ);
            return true;
        }

        private void setWay(int number, long x, long y, long z) {
            if (number < 0 || number > 2) {
                return;
            }
            ways[3 * number] = x;
            ways[3 * number + 1] = y;
            ways[3 * number + 2] = z;
            Fraction.lower(ways, 3 * number);
        }

        void begin(Part part, int i) {
            beginX = part.x[i];
            beginY = part.y[i];
            beginZ = part.z[i];
            laid = true;
        }

        long along(int number, Part part, int i) {
            return ways[3 * number] * (part.x[i] - beginX)
                    + ways[3 * number + 1] * (part.y[i] - beginY)
                    + ways[3 * number + 2] * (part.z[i] - beginZ);
        }
    }

    /** Corners, each with the piece to the next one. */
    private static final class Outline {
        final Fraction least = new Fraction();
        int count;
        private final int[] x = new int[CORNERS];
        private final int[] y = new int[CORNERS];
        private long squareAbove;
        private long squareBelow;

        boolean endsAt(int cx, int cy) {
            return count > 0 && x[count - 1] == cx && y[count - 1] == cy;
        }

        int add(int cx, int cy) {
            if (count < CORNERS) {
                x[count] = cx;
                y[count] = cy;
                count++;
            }
            return count;
        }

        /** The first nearest piece; the square of how far it is stands in least. */
        int findNearest(int px, int py) {
            int first = 0;
            measure(0, px, py);
            long leastAbove = squareAbove;
            long leastBelow = squareBelow;
            for (int k = 1; k < count; k++) {
                measure(k, px, py);
                if (Fraction.isLess(squareAbove, squareBelow, leastAbove, leastBelow)) {
                    first = k;
                    leastAbove = squareAbove;
                    leastBelow = squareBelow;
                }
            }
            least.become(leastAbove, leastBelow);
            return first;
        }

        /** A piece whose ends are at one place has no length, and its product is 0: it counts as that place. */
        private void measure(int k, int px, int py) {
            int next = k + 1 < count ? k + 1 : 0;
            long dx = x[next] - x[k];
            long dy = y[next] - y[k];
            long ex = px - x[k];
            long ey = py - y[k];
            long length = dx * dx + dy * dy;
            long product = dx * ex + dy * ey;
            squareBelow = 1;
            if (product <= 0) {
                squareAbove = ex * ex + ey * ey;
            } else if (product >= length) {
                squareAbove = (ex - dx) * (ex - dx) + (ey - dy) * (ey - dy);
            } else {
                long cross = dx * ey - dy * ex;
                squareAbove = cross * cross;
                squareBelow = length;
            }
        }
    }

    /** Boxes, three sides each. */
    private static final class Boxes {
        int count;
        private final int[] least = new int[3 * BOXES];
        private final int[] most = new int[3 * BOXES];
        private long enterAbove;
        private long enterBelow;
        private long leaveAbove;
        private long leaveBelow;

        /** A side of the box that comes next. */
        void setSide(int side, int from, int size) {
            int at = 3 * count + side;
            if (at >= 0 && at < least.length) {
                least[at] = from;
                most[at] = from + size;
            }
        }

        /** -1 if the move from a point to another one goes into no box. */
        int firstEntered(Part part, int i, int k) {
            for (int b = 0; b < count; b++) {
                if (isEntered(b, part, i, k)) {
                    return b;
                }
            }
            return -1;
        }

        /**
         * A move is inside between its last entering of a side and its first leaving of one, told as fractions
         * of its length; it has a place there if that span is more than nothing and reaches between 0 and 1.
         */
        private boolean isEntered(int b, Part part, int i, int k) {
            enterAbove = -1;
            enterBelow = 1;
            leaveAbove = 2;
            leaveBelow = 1;
            return narrow(3 * b, part.x[i], part.x[k])
                    && narrow(3 * b + 1, part.y[i], part.y[k])
                    && narrow(3 * b + 2, part.z[i], part.z[k])
                    && enterAbove * leaveBelow < leaveAbove * enterBelow
                    && leaveAbove > 0 && enterAbove < enterBelow;
        }

        /** False if the move never is between a side's two faces. */
        private boolean narrow(int side, int from, int to) {
            if (from == to) {
                return least[side] < from && from < most[side];
            }
            long step = Math.abs(to - from);
            long enter = to > from ? least[side] - from : from - most[side];
            long leave = to > from ? most[side] - from : from - least[side];
            if (enter * enterBelow > enterAbove * step) {
                enterAbove = enter;
                enterBelow = step;
            }
            if (leave * leaveBelow < leaveAbove * step) {
                leaveAbove = leave;
                leaveBelow = step;
            }
            return true;
        }
    }
}
