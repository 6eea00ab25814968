// For each promise of the document: ordinary inputs, the edges that it names, and wrong inputs.
public final class PromiseTests {
    private static final long LOW = -1000000000000000000L;
    private static final long BEYOND = LOW - 1;
    private static final long MISSING = LOW - 2;
    private static final long SIZE = LOW - 3;
    private static final long KIND = LOW - 4;
    private static final long FULL = LOW - 5;
    private static final long NONE = LOW - 6;
    private static final long MISSED = LOW - 7;
    private static final int LEAST = Integer.MIN_VALUE;
    private static final int MOST = Integer.MAX_VALUE;

    private static int wrong = 0;
    private static int asked = 0;

    public static void main(String[] args) {
        promise1();
        promise2();
        promise3();
        promise4();
        promise5();
        promise6();
        promise7();
        promise8();
        promise9();
        promise10();
        promise11();
        promise12();
        promise13();
        promise14();
        promise15();
        promise16();
        promise16Line();
        promise16Plane();
        promise16Circle();
        promise17();
        promise18();
        promise19();
        promise20();
        promise21();
        promise22();
        promise23();
        promise24();
        promise25();
        promise26();
        promise27();
        promise28();
        promise29();
        promise30();
        promise31();
        promise32();
        promise33();
        promise34();
        promise35();
        promise36();
        promise37();
        System.out.println(asked + " answers asked, " + wrong + " not as due");
        if (wrong != 0) {
            System.exit(1);
        }
    }

    private static void due(String what, long got, long want) {
        asked++;
        if (got != want) {
            wrong++;
            System.out.println(what + ": answered " + got + ", due is " + want);
        }
    }

    /** A bench whose part 0 has these points, three numbers each. */
    private static TouchBench bench(int... numbers) {
        TouchBench b = new TouchBench();
        addPoints(b, 0, numbers);
        return b;
    }

    private static void addPoints(TouchBench b, int part, int... numbers) {
        for (int i = 0; i + 2 < numbers.length; i += 3) {
            b.point(part, numbers[i], numbers[i + 1], numbers[i + 2]);
        }
    }

    private static void dueHeld(String what, TouchBench b, int f, long... points) {
        for (int i = 0; i < points.length; i++) {
            due(what + ", held " + i, b.held(f, i), points[i]);
        }
        due(what + ", held no more", b.held(f, points.length), NONE);
    }

    private static void dueMiss(String what, TouchBench b, int f, long above, long below) {
        due(what + ", MISS above", b.missOf(f, false), above);
        due(what + ", MISS below", b.missOf(f, true), below);
    }

    private static void dueMiddle(String what, TouchBench b, int f, long xAbove, long xBelow, long yAbove, long yBelow) {
        due(what + ", middle x above", b.middle(f, false, false), xAbove);
        due(what + ", middle x below", b.middle(f, false, true), xBelow);
        due(what + ", middle y above", b.middle(f, true, false), yAbove);
        due(what + ", middle y below", b.middle(f, true, true), yBelow);
    }

    private static void dueWay(String what, TouchBench b, int f, long x, long y, long z) {
        due(what + ", way 0", b.way(f, 0), x);
        due(what + ", way 1", b.way(f, 1), y);
        due(what + ", way 2", b.way(f, 2), z);
    }

    private static void dueAxis(String what, TouchBench b, int way, long x, long y, long z) {
        due(what + ", axis " + way + " 0", b.axis(way, 0), x);
        due(what + ", axis " + way + " 1", b.axis(way, 1), y);
        due(what + ", axis " + way + " 2", b.axis(way, 2), z);
    }

    private static void promise1() {
        TouchBench b = new TouchBench();
        for (int part = 0; part < 4; part++) {
            due("1 a part without points", b.points(part, false), 0);
        }
        for (int f = 0; f < 6; f++) {
            due("1 no figure", b.drop(f), 0);
        }
        for (int x = -300; x <= 300; x += 150) {
            for (int y = -300; y <= 300; y += 150) {
                due("1 a grid of nothing", b.off(x, y, false) + b.off(x, y, true), 0);
            }
        }
        due("1 no figures", b.told(0), 0);
        due("1 no corners", b.told(1), 0);
        due("1 no boxes", b.told(2), 0);
        due("1 no findings", b.told(3), 0);
        for (int s = 0; s < 4; s++) {
            due("1 a sheet is MISSING", b.lay(0, s), MISSING);
        }
        due("1 no frame", b.axis(0, 0), NONE);
        TouchBench other = bench(1, 2, 3);
        due("1 objects are apart", b.points(0, false), 0);
        due("1 objects are apart", other.points(0, false), 1);
    }

    private static void promise2() {
        TouchBench b = new TouchBench();
        due("2 the first", b.point(0, 300, -300, 300), 1);
        due("2 the second", b.point(0, -300, 300, -300), 2);
        due("2 another part", b.point(3, 0, 0, 0), 1);
        due("2 x kept", b.at(0, 0, 0), 300);
        due("2 y kept", b.at(0, 0, 1), -300);
        due("2 z kept", b.at(0, 0, 2), 300);
        due("2 x of the second", b.at(0, 1, 0), -300);
        due("2 part -1", b.point(-1, 0, 0, 0), BEYOND);
        due("2 part 4", b.point(4, 0, 0, 0), BEYOND);
        int[] bad = {301, -301, LEAST, MOST};
        for (int v : bad) {
            due("2 x beyond", b.point(0, v, 0, 0), BEYOND);
            due("2 y beyond", b.point(0, 0, v, 0), BEYOND);
            due("2 z beyond", b.point(0, 0, 0, v), BEYOND);
        }
        due("2 nothing came", b.points(0, false), 2);
        for (int i = 3; i <= 16; i++) {
            due("2 up to 16", b.point(0, i, i, i), i);
        }
        due("2 full", b.point(0, 0, 0, 0), FULL);
        due("2 beyond ahead of full", b.point(0, 0, 0, 301), BEYOND);
        due("2 the sixteenth stays", b.at(0, 15, 0), 16);
    }

    private static void promise3() {
        TouchBench b = new TouchBench();
        due("3 the first", b.miss(2), 1);
        due("3 the second", b.miss(2), 2);
        due("3 part -1", b.miss(-1), BEYOND);
        due("3 part 4", b.miss(4), BEYOND);
        due("3 at", b.at(2, 1, 0), MISSED);
        for (int i = 3; i <= 16; i++) {
            b.miss(2);
        }
        due("3 full", b.miss(2), FULL);
        due("3 count", b.points(2, false), 16);
        b.clear(2);
        b.point(2, 7, 8, 9);
        due("3 no MISSED one is left behind", b.at(2, 0, 1), 8);
    }

    private static void promise4() {
        TouchBench b = bench(1, 1, 1, 2, 2, 2);
        b.miss(0);
        b.point(1, 5, 5, 5);
        due("4 how many it had", b.clear(0), 3);
        due("4 none left", b.points(0, false), 0);
        due("4 again", b.clear(0), 0);
        due("4 the other stays", b.points(1, false), 1);
        due("4 part -1", b.clear(-1), BEYOND);
        due("4 part 4", b.clear(4), BEYOND);
        due("4 from the first on", b.point(0, 9, 9, 9), 1);
    }

    private static void promise5() {
        TouchBench b = bench(1, -2, 3);
        b.miss(0);
        due("5 x", b.at(0, 0, 0), 1);
        due("5 y", b.at(0, 0, 1), -2);
        due("5 z", b.at(0, 0, 2), 3);
        due("5 missed", b.at(0, 1, 2), MISSED);
        due("5 no such what ahead of MISSED", b.at(0, 1, 3), BEYOND);
        due("5 what -1", b.at(0, 0, -1), BEYOND);
        due("5 point 2", b.at(0, 2, 0), BEYOND);
        due("5 point -1", b.at(0, -1, 0), BEYOND);
        due("5 point far", b.at(0, MOST, 0), BEYOND);
        due("5 part 4", b.at(4, 0, 0), BEYOND);
        due("5 part -1", b.at(-1, 0, 0), BEYOND);
        due("5 a part without", b.at(1, 0, 0), BEYOND);
    }

    private static void promise6() {
        TouchBench b = bench(1, 1, 1);
        b.miss(0);
        b.point(0, 2, 2, 2);
        due("6 all", b.points(0, false), 3);
        due("6 touched", b.points(0, true), 2);
        due("6 none", b.points(1, true), 0);
        due("6 part 4", b.points(4, true), BEYOND);
        due("6 part -1", b.points(-1, false), BEYOND);
    }

    private static void promise7() {
        TouchBench b = bench(0, 0, 7, -300, -300, 0, 300, 300, 0, 150, 0, 5);
        b.miss(0);
        due("7 a grid of nothing", b.mend(0), 0);
        b.grid(4, 10, -7);
        due("7 two change", b.mend(0), 2);
        due("7 x less", b.at(0, 0, 0), -10);
        due("7 y more", b.at(0, 0, 1), 7);
        due("7 z stays", b.at(0, 0, 2), 7);
        due("7 by half", b.at(0, 3, 0), 145);
        due("7 by half, cut down: -3.5 is -4", b.at(0, 3, 1), 4);
        due("7 the MISSED stays", b.at(0, 4, 0), MISSED);
        due("7 part 4", b.mend(4), BEYOND);
        due("7 part -1", b.mend(-1), BEYOND);
        due("7 a part without", b.mend(1), 0);
        TouchBench c = bench(-300, -300, 0, 300, 300, 0, 290, 300, 0);
        c.grid(0, 50, 50);
        c.grid(8, -50, -50);
        due("7 only what is not cut changes", c.mend(0), 1);
        due("7 cut at -300", c.at(0, 0, 0), -300);
        due("7 cut at 300", c.at(0, 1, 1), 300);
        due("7 cut at 300 from 290", c.at(0, 2, 0), 300);
        // Both by the place as it was: y's mending must not look at the new x.
        TouchBench d = bench(0, 0, 0);
        d.grid(4, 50, 50);
        d.grid(3, 0, 0);
        d.mend(0);
        due("7 x", d.at(0, 0, 0), -50);
        due("7 y by the same place", d.at(0, 0, 1), -50);
    }

    private static void promise8() {
        TouchBench b = new TouchBench();
        for (int corner = 0; corner < 9; corner++) {
            due("8 set", b.grid(corner, corner + 1, -corner), 1);
        }
        for (int corner = 0; corner < 9; corner++) {
            int x = -300 + 300 * (corner % 3);
            int y = -300 + 300 * (corner / 3);
            due("8 x of corner " + corner, b.off(x, y, false), corner + 1);
            due("8 y of corner " + corner, b.off(x, y, true), -corner);
        }
        due("8 bounds", b.grid(0, 50, -50), 1);
        due("8 bounds", b.grid(0, -50, 50), 1);
        due("8 corner 9", b.grid(9, 0, 0), BEYOND);
        due("8 corner -1", b.grid(-1, 0, 0), BEYOND);
        due("8 x 51", b.grid(0, 51, 0), BEYOND);
        due("8 x -51", b.grid(0, -51, 0), BEYOND);
        due("8 y 51", b.grid(0, 0, 51), BEYOND);
        due("8 y -51", b.grid(0, 0, -51), BEYOND);
        due("8 nothing changed", b.off(-300, -300, false), -50);
        due("8 nothing changed", b.off(-300, -300, true), 50);
    }

    private static void promise9() {
        TouchBench b = new TouchBench();
        b.grid(0, 10, 0);
        b.grid(1, 20, 0);
        b.grid(3, 30, 0);
        b.grid(4, 40, -1);
        b.grid(5, -50, 1);
        b.grid(8, 50, 0);
        due("9 a corner", b.off(-300, -300, false), 10);
        due("9 a mean of four", b.off(-150, -150, false), 25);
        // (200*100*10 + 100*100*20 + 200*200*30 + 100*200*40) / 90000 = 26.67
        due("9 weighed", b.off(-200, -100, false), 26);
        due("9 cut down below 0", b.off(-1, -1, true), -1);
        due("9 on a line", b.off(0, -300, false), 20);
        due("9 the last corner", b.off(300, 300, false), 50);
        due("9 just below a line", b.off(-1, 0, false), 39);
        due("9 just above a line", b.off(1, 0, false), 39);
        due("9 down at the middle line", b.off(150, 0, false), -5);
        due("9 of y", b.off(150, 0, true), 0);
        int[] bad = {301, -301, LEAST, MOST};
        for (int v : bad) {
            due("9 x beyond", b.off(v, 0, false), BEYOND);
            due("9 y beyond", b.off(0, v, true), BEYOND);
        }
        b.grid(0, 50, 0);
        due("9 before it is cut to the bounds", b.off(-300, -300, false), 50);
    }

    private static void promise10() {
        TouchBench b = bench(0, 0, 0, 0, 0, 0, 0, 0, 0, 0, 0, 0);
        addPoints(b, 1, 1, 2, 3, 3, 2, -1);
        due("10 the greatest", b.apart(0, 1, 0), 14);
        due("10 the first number", b.apart(0, 1, 1), 0);
        due("10 turned round", b.apart(1, 0, 0), 14);
        b.miss(1);
        addPoints(b, 1, 0, 0, 9);
        due("10 by z", b.apart(0, 1, 0), 81);
        due("10 its number", b.apart(0, 1, 1), 3);
        due("10 the same part", b.apart(0, 0, 0), 0);
        due("10 the same part", b.apart(0, 0, 1), 0);
        due("10 an empty one", b.apart(0, 2, 0), NONE);
        b.miss(2);
        due("10 only MISSED", b.apart(0, 2, 1), NONE);
        due("10 only MISSED, turned", b.apart(2, 0, 1), NONE);
        due("10 part -1", b.apart(-1, 0, 0), BEYOND);
        due("10 part 4", b.apart(0, 4, 0), BEYOND);
        due("10 what 2", b.apart(0, 1, 2), BEYOND);
        due("10 what -1", b.apart(2, 3, -1), BEYOND);
        TouchBench c = bench(-300, -300, -300);
        c.point(3, 300, 300, 300);
        due("10 the farthest", c.apart(0, 3, 0), 1080000);
    }

    private static void promise11() {
        TouchBench b = new TouchBench();
        due("11 shorts", b.sheet(0, 1, 48), 48);
        due("11 ints", b.sheet(1, 2, 0), 0);
        due("11 doubles", b.sheet(3, 3, 5), 5);
        due("11 missing", b.sheet(0, 0, 7), 0);
        due("11 is missing", b.put(0, 0, 1), MISSING);
        due("11 kind 0: n is looked at", b.sheet(3, 0, -1), SIZE);
        due("11 kind 0: n is looked at", b.sheet(3, 0, 49), BEYOND);
        due("11 it is not missing", b.put(3, 4, 1), 0);
        due("11 sheet 4", b.sheet(4, 1, -1), BEYOND);
        due("11 sheet -1", b.sheet(-1, 1, 1), BEYOND);
        due("11 kind 4", b.sheet(0, 4, -1), BEYOND);
        due("11 kind -1", b.sheet(0, -1, 1), BEYOND);
        due("11 n -1", b.sheet(0, 2, -1), SIZE);
        due("11 n least", b.sheet(0, 2, LEAST), SIZE);
        due("11 n 49", b.sheet(0, 2, 49), BEYOND);
        due("11 n most", b.sheet(0, 2, MOST), BEYOND);
        b.sheet(2, 2, 3);
        b.put(2, 0, 5);
        b.sheet(2, 2, 3);
        b.lay(0, 2);
        due("11 all 0 again", b.at(0, 0, 0), 0);
        due("11 no numbers", b.put(1, 0, 0), BEYOND);
        due("11 no points of none", b.lay(0, 1), 0);
    }

    private static void promise12() {
        TouchBench b = new TouchBench();
        due("12 missing", b.put(0, 0, 1), MISSING);
        b.sheet(0, 1, 6);
        due("12 put", b.put(0, 0, 65536 + 12), 0);
        due("12 put", b.put(0, 1, 65535), 0);
        due("12 put", b.put(0, 2, -65536), 0);
        due("12 put", b.put(0, 3, 32768), 0);
        due("12 lay", b.lay(0, 0), 1);
        due("12 lowest bits", b.at(0, 0, 0), 12);
        due("12 lowest bits, below 0", b.at(0, 0, 1), -1);
        due("12 lowest bits, 0", b.at(0, 0, 2), 0);
        due("12 -32768 is no point's", b.at(0, 1, 0), MISSED);
        b.sheet(1, 2, 3);
        b.put(1, 0, 65536);
        due("12 ints whole", b.lay(1, 1), 0);
        b.sheet(2, 3, 3);
        b.put(2, 0, -300);
        b.put(2, 1, 300);
        due("12 doubles", b.lay(2, 2), 1);
        due("12 doubles x", b.at(2, 0, 0), -300);
        due("12 doubles y", b.at(2, 0, 1), 300);
        b.put(2, 2, 65536 + 1);
        due("12 doubles whole", b.lay(2, 2), 0);
        due("12 number 3", b.put(1, 3, 0), BEYOND);
        due("12 number -1", b.put(1, -1, 0), BEYOND);
        due("12 sheet 4", b.put(4, 0, 0), BEYOND);
        due("12 sheet -1", b.put(-1, 0, 0), BEYOND);
        due("12 missing ahead of number", b.put(3, 99, 0), MISSING);
    }

    private static void promise13() {
        TouchBench b = new TouchBench();
        due("13 sheet 4", b.bits(4, 0, 0), BEYOND);
        due("13 sheet -1", b.bits(-1, 0, 0), BEYOND);
        due("13 missing", b.bits(0, 0, 0), MISSING);
        b.sheet(0, 1, 3);
        due("13 shorts", b.bits(0, 9, 0), KIND);
        b.sheet(0, 2, 3);
        due("13 ints", b.bits(0, 0, 0), KIND);
        b.sheet(0, 3, 3);
        due("13 number 3", b.bits(0, 3, 0), BEYOND);
        due("13 number -1", b.bits(0, -1, 0), BEYOND);
        for (int v = -512; v <= 512; v++) {
            dueDouble(v, v >= -300 && v <= 300);
        }
        double[] no = {0.5, -0.5, 299.99999999999994, -1.0000000000000002, 300.5, 1e300, -1e300, 4294967296.0,
            Double.MIN_VALUE, -Double.MIN_VALUE, Double.MIN_NORMAL, Double.MAX_VALUE, Double.NaN,
            Double.POSITIVE_INFINITY, Double.NEGATIVE_INFINITY, 255.5, 128.25, 1024.0, 9007199254740992.0};
        for (double v : no) {
            dueDouble(v, false);
        }
        dueDouble(-0.0, true);
        long[] noNumbers = {-1L, 0x7ff0000000000001L, 0xfff0000000000001L, 0x7ff8000000000001L, 1L, 0x8000000000000001L};
        for (long v : noNumbers) {
            dueBits(v, 0, false);
        }
    }

    private static void dueDouble(double v, boolean touched) {
        dueBits(Double.doubleToRawLongBits(v), (long) v, touched);
    }

    private static void dueBits(long v, long whole, boolean touched) {
        TouchBench b = new TouchBench();
        b.sheet(1, 3, 3);
        due("13 bits", b.bits(1, 1, v), 0);
        due("13 lay of " + Double.longBitsToDouble(v), b.lay(1, 1), touched ? 1 : 0);
        due("13 at of " + Double.longBitsToDouble(v), b.at(1, 0, 1), touched ? whole : MISSED);
    }

    private static void promise14() {
        TouchBench b = new TouchBench();
        b.sheet(0, 2, 6);
        b.sheet(1, 2, 4);
        for (int i = 0; i < 6; i++) {
            b.put(0, i, 10 + i);
        }
        due("14 three", b.copy(0, 3, 1, 1, 3), 3);
        b.lay(0, 1);
        due("14 the first stays", b.at(0, 0, 0), 0);
        due("14 came", b.at(0, 0, 1), 13);
        due("14 came", b.at(0, 0, 2), 14);
        due("14 up", b.copy(0, 0, 0, 1, 5), 5);
        b.lay(1, 0);
        due("14 0 stays", b.at(1, 0, 0), 10);
        due("14 0 at 1", b.at(1, 0, 1), 10);
        due("14 1 at 2", b.at(1, 0, 2), 11);
        due("14 4 at 5", b.at(1, 1, 2), 14);
        due("14 down", b.copy(0, 1, 0, 0, 5), 5);
        b.lay(2, 0);
        due("14 down again", b.at(2, 0, 0), 10);
        due("14 down again", b.at(2, 0, 1), 11);
        due("14 down again", b.at(2, 1, 1), 14);
        due("14 nothing", b.copy(0, 6, 1, 4, 0), 0);
        due("14 sheet 4", b.copy(4, 0, 0, 0, 0), BEYOND);
        due("14 sheet -1", b.copy(0, 0, -1, 0, 0), BEYOND);
        due("14 missing first", b.copy(2, 0, 0, 0, 0), MISSING);
        due("14 missing second", b.copy(0, 0, 2, -1, 0), MISSING);
        b.sheet(2, 1, 48);
        due("14 kind", b.copy(0, -1, 2, 0, 0), KIND);
        due("14 too many of the first", b.copy(0, 3, 1, 0, 4), BEYOND);
        due("14 too many of the second", b.copy(0, 0, 1, 1, 4), BEYOND);
        due("14 from beyond", b.copy(0, 7, 1, 0, 0), BEYOND);
        due("14 to beyond", b.copy(0, 0, 1, 5, 0), BEYOND);
        due("14 from below 0", b.copy(0, -1, 1, 0, 1), BEYOND);
        due("14 to below 0", b.copy(0, 0, 1, -1, 1), BEYOND);
        due("14 n below 0", b.copy(0, 1, 1, 1, -1), BEYOND);
        due("14 most", b.copy(0, MOST, 1, MOST, MOST), BEYOND);
        due("14 most", b.copy(0, 1, 1, 1, MOST), BEYOND);
        due("14 least", b.copy(0, LEAST, 1, LEAST, LEAST), BEYOND);
        due("14 least n", b.copy(0, 0, 1, 0, LEAST), BEYOND);
    }

    private static void promise15() {
        TouchBench b = new TouchBench();
        due("15 part 4", b.lay(4, 0), BEYOND);
        due("15 part -1", b.lay(-1, 0), BEYOND);
        due("15 sheet 4", b.lay(0, 4), BEYOND);
        due("15 sheet -1", b.lay(0, -1), BEYOND);
        due("15 missing", b.lay(0, 0), MISSING);
        b.sheet(0, 2, 11);
        int[] values = {1, 2, 3, 301, 0, 0, 0, 0, -301, 99, 99};
        for (int i = 0; i < values.length; i++) {
            b.put(0, i, values[i]);
        }
        b.point(0, 7, 7, 7);
        due("15 one touched", b.lay(0, 0), 1);
        due("15 three came", b.points(0, false), 4);
        due("15 behind", b.at(0, 1, 2), 3);
        due("15 beyond the bounds", b.at(0, 2, 0), MISSED);
        due("15 beyond the bounds", b.at(0, 3, 0), MISSED);
        b.sheet(1, 1, 48);
        due("15 full", b.lay(0, 1), FULL);
        due("15 nothing changed", b.points(0, false), 4);
        due("15 sixteen", b.lay(1, 1), 16);
        due("15 seventeen", b.lay(1, 0), FULL);
        b.sheet(2, 3, 2);
        due("15 left over only", b.lay(1, 2), 0);
        b.sheet(2, 3, 38);
        due("15 twelve fit", b.lay(0, 2), 12);
        due("15 sixteen now", b.points(0, true), 14);
    }

    private static void promise16() {
        TouchBench b = bench(0, 0, 0, 1, 0, 0, 0, 1, 0);
        due("16 line", b.fit(0, 2, 0), 4);
        due("16 plane", b.fit(1, 3, 0), 6);
        due("16 circle", b.fit(5, 5, 0), 2);
        int[] bad = {-1, 0, 1, 4, 6, LEAST, MOST};
        for (int kind : bad) {
            due("16 kind " + kind, b.fit(0, kind, 0), BEYOND);
        }
        due("16 figure 6", b.fit(6, 2, 0), BEYOND);
        due("16 figure -1", b.fit(-1, 2, 0), BEYOND);
        due("16 part 4", b.fit(0, 2, 4), BEYOND);
        due("16 part -1", b.fit(0, 2, -1), BEYOND);
        b.miss(1);
        for (int kind : new int[] {2, 3, 5}) {
            due("16 none touched, kind " + kind, b.fit(0, kind, 1), NONE);
        }
        due("16 NONE changes nothing", b.as(0, 0), 2);
        dueHeld("16 NONE changes nothing", b, 0, 1, 2, 0, 1);
        b.point(1, 5, 5, 1);
        b.point(1, 5, 5, 2);
        due("16 line of one place", b.fit(0, 2, 1), NONE);
        due("16 plane of a line", b.fit(0, 3, 1), NONE);
        due("16 circle of one place", b.fit(2, 5, 1), 1);
        dueHeld("16 the first one alone, by its number", b, 2, 1);
        b.point(1, 5, 5, 9);
        due("16 plane of three on a line", b.fit(0, 3, 1), NONE);
        due("16 a figure is made anew", b.fit(0, 5, 0), 2);
        due("16 anew", b.as(0, 5), 5);
        b.clear(0);
        due("16 a figure stays when its part goes", b.missOf(0, false), 1);
    }

    private static void promise16Line() {
        // Of a square all four sides have MISS 10; the first pair is held.
        TouchBench square = bench(0, 0, 0, 10, 0, 5, 10, 10, -9, 0, 10, 3);
        square.fit(0, 2, 0);
        dueHeld("16 line of a square", square, 0, 0, 1, 2, 0);
        dueMiss("16 line of a square", square, 0, 100, 1);
        // The diagonal with dx, dy = 3, 4 to a third point: cross 3*7 - 4*1 = 17, 289 by 25.
        TouchBench three = bench(0, 0, 0, 3, 4, 0, 1, 7, 0);
        three.fit(0, 2, 0);
        // Pairs: (0,1) 289/25; (0,2) 289/50; (1,2) 289/13: the least is (0,2).
        dueHeld("16 line of three", three, 0, 0, 2, 0, 1);
        dueMiss("16 line of three", three, 0, 289, 50);
        TouchBench missed = new TouchBench();
        missed.miss(0);
        addPoints(missed, 0, 5, 5, 0, 5, 5, 7, 8, 5, 0);
        missed.miss(0);
        addPoints(missed, 0, 6, 6, 0);
        missed.fit(3, 2, 0);
        // The pair of one place (1, 2) is left out; (1, 3) by 3, 0: 9/9 = 1; (1, 5) by 1, 1: 9/2; (3, 5) by -2, 1: 9/5.
        dueHeld("16 line with MISSED ones", missed, 3, 1, 3, 5, 1);
        dueMiss("16 line with MISSED ones", missed, 3, 1, 1);
        TouchBench flat = bench(0, 0, 0, 2, 2, 0, 1, 1, 9, 3, 3, 3);
        flat.fit(0, 2, 0);
        dueHeld("16 points on a line", flat, 0, 0, 1, 0, 0);
        dueMiss("16 points on a line: 0 is 0 by 1", flat, 0, 0, 1);
        TouchBench wide = bench(-300, -300, 0, 300, -300, 0, 300, 300, 0, -300, 300, 0);
        wide.fit(0, 2, 0);
        dueMiss("16 the widest", wide, 0, 360000, 1);
    }

    private static void promise16Plane() {
        // Four corners of a square sheet lifted at one by 1: the NORMALs of three give 1, those of crossing pairs less.
        TouchBench lifted = bench(0, 0, 0, 10, 0, 0, 10, 10, 4, 0, 10, 0);
        lifted.fit(0, 3, 0);
        // Diagonals (0,2) and (1,3): d (10,10,4), e (-10,10,0): normal (-40,-40,200), crosses 0, -400, 0, -400.
        dueMiss("16 plane over crossing pairs", lifted, 0, 100, 27);
        dueHeld("16 plane over crossing pairs", lifted, 0, 0, 2, 1, 3, 0, 1);
        TouchBench three = bench(0, 0, 0, 1, 0, 0, 0, 1, 0);
        three.fit(0, 3, 0);
        dueHeld("16 plane of three", three, 0, 0, 1, 0, 2, 0, 0);
        dueMiss("16 plane of three", three, 0, 0, 1);
        TouchBench line = bench(0, 0, 0, 1, 1, 1, 2, 2, 2, 0, 0, 5);
        line.fit(0, 3, 0);
        // (0,1) with (0,2) is a line; (0,1) with (0,3) is the first NORMAL.
        dueHeld("16 plane with points on a line", line, 0, 0, 1, 0, 3, 0, 0);
        TouchBench far = bench(-300, -300, -300, 300, 300, -300, 300, -300, 300, -300, 300, 300);
        far.fit(0, 3, 0);
        dueMiss("16 plane of the widest", far, 0, 360000, 1);
        TouchBench missed = new TouchBench();
        missed.miss(0);
        addPoints(missed, 0, 0, 0, 0);
        missed.miss(0);
        addPoints(missed, 0, 1, 0, 0, 0, 1, 0);
        missed.fit(0, 3, 0);
        dueHeld("16 plane with MISSED ones", missed, 0, 1, 3, 1, 4, 1, 1);
    }

    private static void promise16Circle() {
        TouchBench one = bench(-7, 4, 2);
        due("16 circle of one", one.fit(0, 5, 0), 1);
        dueMiss("16 circle of one", one, 0, 0, 1);
        dueMiddle("16 circle of one", one, 0, -7, 1, 4, 1);
        TouchBench pair = bench(0, 0, 0, 1, 0, 0, 3, 0, 0, 2, 1, 0, 3, 0, 7);
        due("16 circle over a pair", pair.fit(0, 5, 0), 2);
        dueHeld("16 circle over the first pair", pair, 0, 0, 2);
        dueMiss("16 circle over a pair", pair, 0, 9, 4);
        dueMiddle("16 circle over a pair", pair, 0, 3, 2, 0, 1);
        // A square: both diagonals have the middle, the first is held.
        TouchBench square = bench(0, 0, 0, 10, 0, 0, 10, 10, 0, 0, 10, 0);
        square.fit(0, 5, 0);
        dueHeld("16 circle of a square", square, 0, 0, 2);
        TouchBench right = bench(0, 0, 0, 6, 0, 0, 0, 8, 0);
        due("16 a right corner is held by a pair", right.fit(0, 5, 0), 2);
        dueHeld("16 a right corner", right, 0, 1, 2);
        TouchBench sharp = bench(0, 0, 0, 4, 0, 0, 2, 3, 0, 2, 1, 0);
        due("16 circle of three", sharp.fit(0, 5, 0), 3);
        dueHeld("16 circle of three", sharp, 0, 0, 1, 2);
        dueMiss("16 circle of three", sharp, 0, 169, 36);
        dueMiddle("16 circle of three", sharp, 0, 2, 1, 5, 6);
        // On the circle of radius 65: a blunt three comes ahead of the sharp one that tells it.
        TouchBench blunt = bench(0, 0, 0, 65, 0, 0, 63, 16, 0, 65, 0, 9, 60, 25, 0, -33, 56, 0, -33, -56, 0);
        due("16 blunt ones, too", blunt.fit(0, 5, 0), 3);
        dueHeld("16 blunt ones, too", blunt, 0, 1, 2, 4);
        dueMiss("16 blunt ones, too", blunt, 0, 4225, 1);
        dueMiddle("16 blunt ones, too", blunt, 0, 0, 1, 0, 1);
        TouchBench twice = bench(0, 0, 0, 0, 0, 7, 4, 0, 0, 0, 0, 9, 4, 0, 5, 2, 3, 0);
        twice.fit(0, 5, 0);
        dueHeld("16 three places, each by its first point", twice, 0, 0, 2, 5);
        TouchBench low = bench(-300, -300, 0, -296, -300, 0, -298, -297, 0);
        low.fit(0, 5, 0);
        dueMiddle("16 below 0", low, 0, -298, 1, -1795, 6);
    }

    private static void promise17() {
        TouchBench b = bench(0, 0, 0, 1, 0, 0);
        b.fit(5, 2, 0);
        due("17 was one", b.drop(5), 1);
        due("17 was none", b.drop(5), 0);
        due("17 is none", b.missOf(5, false), NONE);
        due("17 figure 6", b.drop(6), BEYOND);
        due("17 figure -1", b.drop(-1), BEYOND);
    }

    private static void promise18() {
        TouchBench b = bench(0, 0, 0, 1, 0, 0, 0, 1, 0);
        b.fit(0, 2, 0);
        b.fit(1, 3, 0);
        b.fit(2, 5, 0);
        long[][] want = {{2, 2, 2, KIND, KIND, KIND}, {3, 3, KIND, 3, KIND, KIND}, {5, KIND, KIND, KIND, 5, 5}};
        for (int f = 0; f < 3; f++) {
            for (int kind = 0; kind < 6; kind++) {
                due("18 figure " + f + " as " + kind, b.as(f, kind), want[f][kind]);
            }
        }
        due("18 none", b.as(3, 0), NONE);
        due("18 kind 6", b.as(3, 6), BEYOND);
        due("18 kind -1", b.as(0, -1), BEYOND);
        due("18 figure 6", b.as(6, 0), BEYOND);
        due("18 figure -1", b.as(-1, 0), BEYOND);
    }

    private static void promise19() {
        TouchBench b = bench(0, 0, 0, 4, 0, 0, 2, 3, 0, 2, 1, 5);
        b.fit(0, 5, 0);
        due("19 the last", b.held(0, 2), 2);
        due("19 no such", b.held(0, 3), NONE);
        due("19 no such", b.held(0, -1), NONE);
        due("19 no such", b.held(0, LEAST), NONE);
        due("19 no such", b.held(0, MOST), NONE);
        due("19 none", b.held(1, 0), NONE);
        due("19 figure 6", b.held(6, 0), BEYOND);
        due("19 figure -1", b.held(-1, 0), BEYOND);
        due("19 fewer than before", b.fit(0, 3, 0), 6);
        b.clear(0);
        b.point(0, 1, 1, 1);
        b.fit(0, 5, 0);
        due("19 no more held", b.held(0, 1), NONE);
    }

    private static void promise20() {
        TouchBench b = bench(0, 0, 0, 3, 4, 0, 1, 7, 0);
        b.fit(4, 2, 0);
        dueMiss("20 in lowest terms", b, 4, 289, 50);
        b.fit(3, 5, 0);
        dueMiss("20 of a circle its radius, squared", b, 3, 25, 2);
        due("20 none", b.missOf(0, true), NONE);
        due("20 figure 6", b.missOf(6, false), BEYOND);
        due("20 figure -1", b.missOf(-1, true), BEYOND);
        b.clear(0);
        addPoints(b, 0, -300, -299, -300, 300, 298, -299, 297, -300, 300, -300, 300, 293, 1, 2, 3);
        b.fit(0, 3, 0);
        due("20 figure stays", b.missOf(4, false), 289);
    }

    private static void promise21() {
        TouchBench b = bench(10, 4, 0, 4, 7, 0);
        b.fit(0, 2, 0);
        dueWay("21 line, the first above 0", b, 0, 2, -1, 0);
        TouchBench up = bench(3, 9, 0, 3, 4, 0);
        up.fit(0, 2, 0);
        dueWay("21 line along y", up, 0, 0, 1, 0);
        TouchBench plane = bench(0, 0, 0, 0, 10, 0, 10, 0, 0);
        plane.fit(1, 3, 0);
        dueWay("21 plane, the first above 0", plane, 1, 0, 0, 1);
        TouchBench tilted = bench(0, 0, 0, 0, 2, 2, 2, 2, 0);
        tilted.fit(1, 3, 0);
        // (0,2,2) x (2,2,0) = (-4, 4, -4).
        dueWay("21 plane tilted", tilted, 1, 1, -1, 1);
        TouchBench side = bench(0, 0, 0, 4, 0, 4, 0, 3, 0, 4, 3, 4);
        side.fit(1, 3, 0);
        // (4,0,4) x (0,3,0) = (-12, 0, 12).
        dueWay("21 plane tilted by y", side, 1, 1, 0, -1);
        plane.fit(2, 5, 0);
        due("21 a circle", plane.way(2, 0), KIND);
        due("21 none", plane.way(0, 0), NONE);
        due("21 number 3", plane.way(2, 3), BEYOND);
        due("21 number -1", plane.way(0, -1), BEYOND);
        due("21 figure 6", plane.way(6, 0), BEYOND);
        due("21 figure -1", plane.way(-1, 0), BEYOND);
    }

    private static void promise22() {
        TouchBench b = bench(-1, 3, 0, -2, 3, 0);
        b.fit(0, 5, 0);
        dueMiddle("22 of a pair", b, 0, -3, 2, 3, 1);
        b.fit(1, 2, 0);
        due("22 a line", b.middle(1, false, false), KIND);
        due("22 none", b.middle(2, false, false), NONE);
        due("22 figure 6", b.middle(6, true, false), BEYOND);
        due("22 figure -1", b.middle(-1, false, true), BEYOND);
        TouchBench zero = bench(-1, -5, 0, 1, 5, 0);
        zero.fit(0, 5, 0);
        dueMiddle("22 0 is 0 by 1", zero, 0, 0, 1, 0, 1);
    }

    private static void promise23() {
        TouchBench b = bench(0, 0, 0, 10, 0, 0, 10, 10, 0, 0, 10, 0);
        b.fit(0, 2, 0);
        due("23 just kept", b.ask(0, 10), 1);
        due("23 not kept", b.ask(0, 9), 0);
        due("23 more", b.ask(0, 2000), 1);
        b.fit(1, 5, 0);
        due("23 a diameter of 14.14", b.ask(1, 14), 0);
        due("23 a diameter of 14.14", b.ask(1, 15), 1);
        due("23 t 2001", b.ask(0, 2001), BEYOND);
        due("23 t -1", b.ask(0, -1), BEYOND);
        due("23 t -1 ahead of NONE", b.ask(2, -1), BEYOND);
        due("23 none", b.ask(2, 0), NONE);
        due("23 figure 6", b.ask(6, 0), BEYOND);
        due("23 figure -1", b.ask(-1, 0), BEYOND);
        TouchBench pair = bench(0, 0, 0, 3, 4, 0);
        pair.fit(0, 2, 0);
        due("23 no MISS is kept by 0", pair.ask(0, 0), 1);
        pair.fit(1, 5, 0);
        due("23 a diameter of 5", pair.ask(1, 5), 1);
        due("23 a diameter of 5", pair.ask(1, 4), 0);
    }

    private static void promise24() {
        TouchBench b = bench(0, 0, 0, 3, 4, 0);
        b.fit(0, 2, 0);
        b.fit(1, 5, 0);
        due("24 no MISS", b.level(0), 0);
        due("24 a diameter of 5", b.level(1), 5);
        b.point(0, 1, 7, 0);
        b.fit(0, 2, 0);
        due("24 289 by 50 is 2.40 squared", b.level(0), 3);
        due("24 none", b.level(2), NONE);
        due("24 figure 6", b.level(6), BEYOND);
        due("24 figure -1", b.level(-1), BEYOND);
        TouchBench far = bench(-300, -300, -300, 300, 300, -300, 300, -300, 300, -300, 300, 300);
        far.fit(0, 3, 0);
        due("24 a plane", far.level(0), 600);
        far.fit(0, 5, 0);
        due("24 the widest circle", far.level(0), 849);
    }

    private static void promise25() {
        TouchBench b = bench(0, 0, 0, 10, 0, 0, 10, 10, 1, 0, 10, 0, 5, 4, 3);
        b.fit(0, 2, 0);
        b.fit(1, 3, 0);
        b.fit(2, 5, 0);
        // The line's MISS is 10, the circle's diameter 14.14.
        due("25 5 and 5", b.more(0, 5, 2, 20), 1);
        due("25 5 and 4", b.more(0, 5, 2, 19), 0);
        due("25 10 and 0", b.more(0, 10, 2, 14), 1);
        due("25 10, more than the size", b.more(0, 10, 2, 0), 1);
        due("25 9, more than the size", b.more(0, 9, 2, 0), 0);
        due("25 9 and 0.86", b.more(0, 9, 2, 15), 0);
        due("25 9 and 1", b.more(0, 9, 2, 16), 1);
        due("25 0 and 10", b.more(0, 0, 2, 25), 1);
        due("25 a plane", b.more(1, 2000, 2, 2000), 1);
        due("25 a plane of MISS 3", b.more(1, 2, 2, 16), 1);
        due("25 a plane of MISS 3", b.more(1, 2, 2, 15), 0);
        due("25 first no FLAT", b.more(2, 0, 2, 0), KIND);
        due("25 second no ROUND", b.more(0, 0, 1, 0), KIND);
        due("25 first none", b.more(3, 0, 2, 0), NONE);
        due("25 second none", b.more(0, 0, 3, 0), NONE);
        due("25 none ahead of kind", b.more(2, 0, 3, 0), NONE);
        due("25 figure 6", b.more(6, 0, 2, 0), BEYOND);
        due("25 figure -1", b.more(0, 0, -1, 0), BEYOND);
        due("25 figure 6", b.more(0, 0, 6, 0), BEYOND);
        due("25 t -1", b.more(0, -1, 2, 0), BEYOND);
        due("25 t 2001", b.more(0, 2001, 2, 0), BEYOND);
        due("25 size -1", b.more(0, 0, 2, -1), BEYOND);
        due("25 size 2001", b.more(3, 0, 2, 2001), BEYOND);
        // A whole diameter: 10 less 5 is 5.
        TouchBench whole = bench(0, 0, 0, 3, 4, 0);
        addPoints(whole, 1, 0, 0, 0, 9, 0, 0, 9, 9, 0, 0, 9, 0);
        whole.fit(0, 5, 0);
        whole.fit(1, 2, 1);
        due("25 a whole diameter", whole.more(1, 4, 0, 10), 1);
        due("25 a whole diameter", whole.more(1, 3, 0, 10), 0);
    }

    private static void promise26() {
        TouchBench b = bench(0, 0, 0, 0, 2, 2, 2, 2, 0);
        b.miss(0);
        b.fit(0, 3, 0);
        due("26 laid", b.frame(0, 2, 0, 0, 0, 1), 1);
        // First (1,-1,1); direction (2,0,0): (2,0,0)*3 - (1,-1,1)*2 = (4,2,-2); (1,-1,1) x (2,0,0) = (0,2,2).
        dueAxis("26", b, 0, 1, -1, 1);
        dueAxis("26", b, 1, 2, 1, -1);
        dueAxis("26", b, 2, 0, 1, 1);
        due("26 its beginning", b.inFrame(0, 1, 1), 0);
        due("26 laid anew, signs as they are", b.frame(0, -2, 0, 0, 0, 0), 1);
        dueAxis("26 anew", b, 1, -2, -1, 1);
        dueAxis("26 anew", b, 2, 0, -1, -1);
        due("26 along the first way", b.frame(0, 3, -3, 3, 0, 1), SIZE);
        due("26 against the first way", b.frame(0, -3, 3, -3, 0, 1), SIZE);
        due("26 no direction", b.frame(0, 0, 0, 0, 0, 1), SIZE);
        due("26 MISSED ahead of SIZE", b.frame(0, 0, 0, 0, 0, 3), MISSED);
        b.fit(1, 2, 0);
        due("26 a line, ahead of MISSED", b.frame(1, 0, 0, 0, 0, 3), KIND);
        b.fit(1, 5, 0);
        due("26 a circle", b.frame(1, 1, 0, 0, 0, 0), KIND);
        due("26 none", b.frame(2, 0, 0, 0, 0, 3), NONE);
        due("26 figure 6", b.frame(6, 1, 0, 0, 0, 0), BEYOND);
        due("26 figure -1", b.frame(-1, 1, 0, 0, 0, 0), BEYOND);
        due("26 part 4", b.frame(0, 1, 0, 0, 4, 0), BEYOND);
        due("26 part -1", b.frame(2, 1, 0, 0, -1, 0), BEYOND);
        due("26 point 4", b.frame(0, 1, 0, 0, 0, 4), BEYOND);
        due("26 point -1", b.frame(0, 1, 0, 0, 0, -1), BEYOND);
        int[] bad = {101, -101, LEAST, MOST};
        for (int v : bad) {
            due("26 x beyond", b.frame(0, v, 0, 0, 0, 0), BEYOND);
            due("26 y beyond", b.frame(0, 0, v, 0, 0, 0), BEYOND);
            due("26 z beyond", b.frame(0, 0, 0, v, 0, 0), BEYOND);
        }
        dueAxis("26 nothing changed", b, 1, -2, -1, 1);
        due("26 nothing changed", b.inFrame(0, 0, 1), 0);
        due("26 bounds", b.frame(0, 100, -100, 100, 0, 0), SIZE);
        due("26 bounds", b.frame(0, -100, -100, 100, 0, 0), 1);
    }

    private static void promise27() {
        TouchBench b = bench(0, 0, 0, 1, 0, 0, 0, 1, 0);
        due("27 none laid", b.axis(0, 0), NONE);
        due("27 beyond ahead of none", b.axis(3, 0), BEYOND);
        b.fit(0, 3, 0);
        b.frame(0, 0, 5, 7, 0, 0);
        dueAxis("27", b, 0, 0, 0, 1);
        dueAxis("27", b, 1, 0, 1, 0);
        dueAxis("27", b, 2, -1, 0, 0);
        due("27 way -1", b.axis(-1, 0), BEYOND);
        due("27 way 3", b.axis(3, 0), BEYOND);
        due("27 number -1", b.axis(0, -1), BEYOND);
        due("27 number 3", b.axis(0, 3), BEYOND);
        b.drop(0);
        b.clear(0);
        due("27 it stays", b.axis(1, 1), 1);
    }

    private static void promise28() {
        TouchBench b = bench(1, 2, 3, 2, 2, 3, 1, 3, 3, 10, 20, 30);
        b.miss(0);
        due("28 none laid", b.inFrame(0, 0, 0), NONE);
        due("28 MISSED ahead of none", b.inFrame(0, 4, 0), MISSED);
        due("28 beyond ahead of none", b.inFrame(0, 5, 0), BEYOND);
        b.point(1, 0, 0, 0);
        b.point(1, 1, 0, 0);
        b.point(1, 0, 1, 0);
        b.fit(0, 3, 1);
        b.frame(0, 1, 0, 0, 0, 0);
        due("28 along the first", b.inFrame(0, 3, 0), 27);
        due("28 along the second", b.inFrame(0, 3, 1), 9);
        due("28 along the third", b.inFrame(0, 3, 2), 18);
        due("28 of another part", b.inFrame(1, 0, 0), -3);
        due("28 way 3", b.inFrame(0, 3, 3), BEYOND);
        due("28 way -1", b.inFrame(0, 4, -1), BEYOND);
        due("28 point -1", b.inFrame(0, -1, 0), BEYOND);
        due("28 part 4", b.inFrame(4, 0, 0), BEYOND);
        due("28 part -1", b.inFrame(-1, 0, 0), BEYOND);
        b.clear(0);
        due("28 the beginning stays when its part goes", b.inFrame(1, 0, 1), -1);
    }

    private static void promise29() {
        TouchBench b = new TouchBench();
        due("29 the first", b.corner(300, -300), 1);
        due("29 the same again", b.corner(300, -300), SIZE);
        due("29 another", b.corner(300, -299), 2);
        due("29 that of an earlier one", b.corner(300, -300), 3);
        int[] bad = {301, -301, LEAST, MOST};
        for (int v : bad) {
            due("29 x beyond", b.corner(v, 0), BEYOND);
            due("29 y beyond", b.corner(0, v), BEYOND);
        }
        for (int i = 4; i <= 10; i++) {
            due("29 up to 10", b.corner(i, i), i);
        }
        due("29 full", b.corner(0, 0), FULL);
        due("29 size ahead of full", b.corner(10, 10), SIZE);
        due("29 beyond ahead of full", b.corner(0, 301), BEYOND);
        due("29 ten", b.told(1), 10);
        b.open();
        due("29 0, 0 at first", b.corner(0, 0), 1);
    }

    private static void promise30() {
        TouchBench b = new TouchBench();
        due("30 none", b.open(), 0);
        b.corner(1, 1);
        b.corner(2, 2);
        due("30 two", b.open(), 2);
        due("30 none", b.open(), 0);
        due("30 no latest corner", b.corner(2, 2), 1);
    }

    private static void promise31() {
        TouchBench b = bench(5, 1, 99, 9, 5, 0, 5, 9, 0, 1, 5, 0, 5, 5, 0, -5, -5, 0);
        b.miss(0);
        due("31 no corners", b.nearest(0, 0), NONE);
        due("31 MISSED ahead of none", b.nearest(0, 6), MISSED);
        due("31 beyond ahead of none", b.nearest(0, 7), BEYOND);
        b.corner(0, 0);
        due("31 one corner", b.nearest(0, 0), NONE);
        b.corner(10, 0);
        due("31 of two like pieces the first", b.nearest(0, 0), 0);
        b.corner(10, 10);
        b.corner(0, 10);
        for (int i = 0; i < 4; i++) {
            due("31 piece " + i, b.nearest(0, i), i);
        }
        due("31 the first of four", b.nearest(0, 4), 0);
        due("31 beside a corner the first", b.nearest(0, 5), 0);
        due("31 point -1", b.nearest(0, -1), BEYOND);
        due("31 part 4", b.nearest(4, 0), BEYOND);
        due("31 part -1", b.nearest(-1, 0), BEYOND);
        // The last piece has no length: from a corner back to the first at the same place.
        b.corner(0, 0);
        due("31 a piece of no length", b.nearest(0, 3), 3);
        due("31 a piece of no length", b.nearest(0, 5), 0);
    }

    private static void promise32() {
        TouchBench b = bench(0, 1, 5, 1, 0, 0, -3, -4, 0, 200, 100, 0, 3, 6, 0);
        b.miss(0);
        due("32 no corners", b.far(0, 0, true), NONE);
        due("32 MISSED", b.far(0, 5, false), MISSED);
        due("32 point 6", b.far(0, 6, false), BEYOND);
        due("32 point -1", b.far(0, -1, false), BEYOND);
        due("32 part 4", b.far(4, 0, true), BEYOND);
        due("32 part -1", b.far(-1, 0, true), BEYOND);
        b.corner(0, 0);
        due("32 one corner", b.far(0, 0, false), NONE);
        b.corner(100, 200);
        // By 1, 2: cross of (0, 1) is 1, of (1, 0) -2, squared by 5.
        due("32 above", b.far(0, 0, false), 1);
        due("32 below", b.far(0, 0, true), 5);
        due("32 above", b.far(0, 1, false), 4);
        due("32 below", b.far(0, 1, true), 5);
        due("32 ahead of the piece", b.far(0, 2, false), 25);
        due("32 ahead of the piece", b.far(0, 2, true), 1);
        due("32 beside the piece", b.far(0, 3, false), 18000);
        due("32 on the piece: 0 by 1", b.far(0, 4, false), 0);
        due("32 on the piece: 0 by 1", b.far(0, 4, true), 1);
        TouchBench behind = bench(13, 4, 0);
        behind.corner(0, 0);
        behind.corner(10, 0);
        due("32 behind the piece", behind.far(0, 0, false), 25);
        due("32 behind the piece", behind.far(0, 0, true), 1);
    }

    private static void promise33() {
        TouchBench b = new TouchBench();
        due("33 the first", b.box(-300, -300, -300, 300, 300, 300), 0);
        due("33 the second", b.box(299, 299, 299, 1, 1, 1), 1);
        int[] bad = {0, -1, 301, LEAST, MOST};
        for (int v : bad) {
            due("33 dx", b.box(-300, 0, 0, v, 1, 1), BEYOND);
            due("33 dy", b.box(0, -300, 0, 1, v, 1), BEYOND);
            due("33 dz", b.box(0, 0, -300, 1, 1, v), BEYOND);
        }
        int[] badCorner = {-301, 301, 300, LEAST, MOST};
        for (int v : badCorner) {
            due("33 a", b.box(v, 0, 0, 1, 1, 1), BEYOND);
            due("33 b", b.box(0, v, 0, 1, 1, 1), BEYOND);
            due("33 c", b.box(0, 0, v, 1, 1, 1), BEYOND);
        }
        due("33 beyond 300 in x", b.box(200, 0, 0, 101, 1, 1), BEYOND);
        due("33 beyond 300 in y", b.box(0, 200, 0, 1, 101, 1), BEYOND);
        due("33 beyond 300 in z", b.box(0, 0, 200, 1, 1, 101), BEYOND);
        due("33 up to 300", b.box(200, 200, 200, 100, 100, 100), 2);
        for (int i = 3; i < 6; i++) {
            due("33 up to 6", b.box(0, 0, 0, 1, 1, 1), i);
        }
        due("33 full", b.box(0, 0, 0, 1, 1, 1), FULL);
        due("33 beyond ahead of full", b.box(0, 0, 0, 0, 1, 1), BEYOND);
        due("33 six", b.told(2), 6);
    }

    private static void promise34() {
        TouchBench b = bench(5, 5, 5);
        due("34 none", b.unbox(), 0);
        b.box(0, 0, 0, 10, 10, 10);
        b.box(0, 0, 0, 10, 10, 10);
        due("34 it is there", b.move(0, 0, 0), 0);
        due("34 two", b.unbox(), 2);
        due("34 gone", b.move(0, 0, 0), -1);
        due("34 none", b.unbox(), 0);
        due("34 from 0 on", b.box(20, 20, 20, 1, 1, 1), 0);
        due("34 the old one is gone", b.move(0, 0, 0), -1);
    }

    private static void promise35() {
        TouchBench b = bench(-5, 5, 5, 15, 5, 5, 5, 5, 5, -5, 0, 5, 15, 0, 5, -5, 5, 0, 5, -5, 0, 0, 5, 5);
        b.miss(0);
        due("35 no boxes", b.move(0, 0, 1), -1);
        b.box(100, 100, 100, 1, 1, 1);
        b.box(0, 0, 0, 10, 10, 10);
        b.box(1, 1, 1, 8, 8, 8);
        due("35 through", b.move(0, 0, 1), 1);
        due("35 through, back", b.move(0, 1, 0), 1);
        due("35 ends inside", b.move(0, 0, 2), 1);
        due("35 begins inside", b.move(0, 2, 0), 1);
        due("35 stays inside", b.move(0, 2, 2), 1);
        due("35 along a face", b.move(0, 3, 4), -1);
        due("35 along an edge and outside", b.move(0, 5, 6), -1);
        due("35 ends on a face", b.move(0, 0, 7), -1);
        due("35 stays on a face", b.move(0, 7, 7), -1);
        due("35 stays outside", b.move(0, 0, 0), -1);
        due("35 from a face in", b.move(0, 7, 1), 1);
        due("35 MISSED", b.move(0, 0, 8), MISSED);
        due("35 MISSED", b.move(0, 8, 0), MISSED);
        due("35 point 9", b.move(0, 8, 9), BEYOND);
        due("35 point -1", b.move(0, -1, 0), BEYOND);
        due("35 part 4", b.move(4, 0, 0), BEYOND);
        due("35 part -1", b.move(-1, 0, 0), BEYOND);
        TouchBench edge = bench(-1, 1, 5, 1, -1, 5, -1, 2, 5, 2, -1, 5, -5, -5, -5, 15, 15, 15, -5, 15, 5, 5, 25, 5);
        edge.box(0, 0, 0, 10, 10, 10);
        due("35 touches an edge", edge.move(0, 0, 1), -1);
        due("35 cuts an edge", edge.move(0, 2, 3), 0);
        due("35 by two corners", edge.move(0, 4, 5), 0);
        due("35 would be in if it went on", edge.move(0, 6, 7), -1);
        // The whole line goes through, the move stops ahead of the box or begins behind it.
        TouchBench stop = bench(-9, 5, 5, -1, 5, 5, 11, 5, 5, 19, 5, 5, 0, 5, 5, 10, 5, 5);
        stop.box(0, 0, 0, 10, 10, 10);
        due("35 stops ahead", stop.move(0, 0, 1), -1);
        due("35 begins behind", stop.move(0, 2, 3), -1);
        due("35 stops at the face", stop.move(0, 0, 4), -1);
        due("35 begins at the face", stop.move(0, 5, 3), -1);
        due("35 from face to face", stop.move(0, 4, 5), 0);
    }

    private static void promise36() {
        TouchBench b = new TouchBench();
        b.box(0, 0, 0, 10, 10, 10);
        due("36 no points", b.path(0), -1);
        b.miss(0);
        due("36 only MISSED", b.path(0), -1);
        b.point(0, 5, 5, 5);
        due("36 one point inside makes no MOVE", b.path(0), -1);
        b.clear(0);
        b.miss(0);
        addPoints(b, 0, -5, -5, 5, -5, 5, 5);
        due("36 beside", b.path(0), -1);
        b.miss(0);
        due("36 a MISSED one at the end", b.path(0), -1);
        b.miss(0);
        addPoints(b, 0, 15, 5, 5);
        due("36 over MISSED ones", b.path(0), 2);
        addPoints(b, 0, -15, 5, 5);
        due("36 the first", b.path(0), 2);
        b.unbox();
        due("36 no boxes", b.path(0), -1);
        due("36 part 4", b.path(4), BEYOND);
        due("36 part -1", b.path(-1), BEYOND);
    }

    private static void promise37() {
        TouchBench b = bench(0, 0, 0, 1, 0, 0, 0, 1, 0);
        b.fit(0, 2, 0);
        b.fit(1, 3, 0);
        b.fit(5, 5, 0);
        b.fit(5, 5, 0);
        due("37 figures", b.told(0), 3);
        b.drop(1);
        due("37 figures", b.told(0), 2);
        b.corner(1, 1);
        due("37 corners", b.told(1), 1);
        b.box(0, 0, 0, 1, 1, 1);
        b.box(0, 0, 0, 1, 1, 1);
        due("37 boxes", b.told(2), 2);
        due("37 no findings", b.told(3), 0);
        due("37 no such what", b.told(4), BEYOND);
        due("37 that one, too", b.told(3), 1);
        due("37 no such what", b.told(-1), BEYOND);
        due("37 no findings of its own", b.told(3), 2);
        due("37 no such what", b.told(3) + b.told(LEAST) + b.told(MOST), 2 + BEYOND + BEYOND);
        due("37 four", b.told(3), 4);
        everyActFinds(b);
        due("37 one for each act, no more", b.told(3), 4 + 33);
        b.move(0, 0, 1);
        b.path(0);
        due("37 -1 is no finding", b.told(3), 4 + 33);
    }

    /** Each act that has findings answers one; far() and nearest() must not count twice. */
    private static void everyActFinds(TouchBench b) {
        b.point(4, 0, 0, 0);
        b.miss(4);
        b.clear(4);
        b.at(4, 0, 0);
        b.points(4, true);
        b.mend(4);
        b.grid(9, 0, 0);
        b.off(301, 0, false);
        b.apart(1, 2, 0);
        b.sheet(0, 1, -1);
        b.put(0, 0, 0);
        b.bits(0, 0, 0);
        b.copy(0, 0, 0, 0, 0);
        b.lay(0, 0);
        b.fit(0, 2, 1);
        b.drop(6);
        b.as(0, 3);
        b.held(0, 9);
        b.missOf(1, true);
        b.way(5, 0);
        b.middle(0, true, true);
        b.ask(1, 0);
        b.level(1);
        b.more(0, 0, 0, 0);
        b.frame(0, 0, 0, 0, 0, 0);
        b.axis(0, 0);
        b.inFrame(0, 0, 0);
        b.corner(1, 1);
        b.nearest(0, 0);
        b.far(0, 0, true);
        b.box(0, 0, 0, 0, 0, 0);
        b.move(0, 0, 9);
        b.path(4);
    }
}
