import java.io.IOException;
import java.lang.reflect.Method;
import java.nio.file.Files;
import java.nio.file.Path;
import java.util.ArrayList;
import java.util.List;
import java.util.function.Supplier;

/**
 * A test for each sentence of the document that names a boundary case, under the sentence's own words.
 * With the path of the document as argument it tells, too, which words of the document no test bears.
 */
public final class EdgeTests {
    private static final long LOW = -1000000000000000000L;
    private static final long BEYOND = LOW - 1;
    private static final long MISSING = LOW - 2;
    private static final long SIZE = LOW - 3;
    private static final long KIND = LOW - 4;
    private static final long FULL = LOW - 5;
    private static final long NONE = LOW - 6;
    private static final long MISSED = LOW - 7;
    private static final int LEAST = Integer.MIN_VALUE;
    private static final int MOST = Integer.MAX_VALUE;
    private static final int LINE = 2;
    private static final int PLANE = 3;
    private static final int CIRCLE = 5;

    private static final List<String> quoted = new ArrayList<>();
    private static String sentence = "";
    private static int askedOfSentence = 0;
    private static int asked = 0;
    private static int wrong = 0;

    private interface Act {
        long on(TouchBench b);
    }

    private interface NumberAct {
        long on(TouchBench b, int number);
    }

    private record Refusal(String what, Act act, long finding) {
    }

    public static void main(String[] args) throws IOException {
        terms();
        promises();
        endSentence();
        System.out.println(quoted.size() + " sentences, " + asked + " answers asked, " + wrong + " not as due");
        if (args.length > 0) {
            tellUnquoted(Files.readString(Path.of(args[0])));
        }
        if (wrong != 0) {
            System.exit(1);
        }
    }

    private static void terms() {
        each(
            EdgeTests::calls, EdgeTests::findings, EdgeTests::findingOrder, EdgeTests::findingsChangeNothing,
            EdgeTests::parts, EdgeTests::fractions, EdgeTests::figureKinds, EdgeTests::lines, EdgeTests::planes,
            EdgeTests::circles, EdgeTests::gridTerms, EdgeTests::mending, EdgeTests::outlines, EdgeTests::boxTerms,
            EdgeTests::sheetTerms);
    }

    private static void promises() {
        each(
            EdgeTests::newObject, EdgeTests::point, EdgeTests::miss, EdgeTests::clear, EdgeTests::at,
            EdgeTests::points, EdgeTests::mend, EdgeTests::grid, EdgeTests::off, EdgeTests::apart, EdgeTests::sheet,
            EdgeTests::put, EdgeTests::bits, EdgeTests::copy, EdgeTests::lay, EdgeTests::fit, EdgeTests::drop,
            EdgeTests::as, EdgeTests::held, EdgeTests::missOf, EdgeTests::way, EdgeTests::middle, EdgeTests::ask,
            EdgeTests::level, EdgeTests::more, EdgeTests::frame, EdgeTests::axis, EdgeTests::inFrame,
            EdgeTests::corner, EdgeTests::open, EdgeTests::nearest, EdgeTests::far, EdgeTests::box, EdgeTests::unbox,
            EdgeTests::move, EdgeTests::path, EdgeTests::told);
    }

    /** What a call throws is one wrong answer: the tests behind it still have their say. */
    private static void each(Runnable... tests) {
        for (Runnable test : tests) {
            try {
                test.run();
            } catch (RuntimeException thrown) {
                wrong++;
                askedOfSentence++;
                System.out.println(sentence + ": a call threw " + thrown);
            }
        }
    }

    // ---- how the tests are told

    private static void says(String place, String words) {
        endSentence();
        sentence = place + " '" + words + "'";
        quoted.add(words);
        askedOfSentence = 0;
    }

    private static void endSentence() {
        if (!sentence.isEmpty() && askedOfSentence == 0) {
            wrong++;
            System.out.println(sentence + ": nothing was asked");
        }
    }

    private static void due(String what, long got, long want) {
        asked++;
        askedOfSentence++;
        if (got != want) {
            wrong++;
            System.out.println(sentence + ": " + what + ": answered " + got + ", due is " + want);
        }
    }

    private static void dueNot(String what, long got, long refused) {
        asked++;
        askedOfSentence++;
        if (got == refused) {
            wrong++;
            System.out.println(sentence + ": " + what + ": answered " + got);
        }
    }

    /** A number from the least to the most is taken, any other is BEYOND; each on an object of its own. */
    private static void dueBounds(String what, Supplier<TouchBench> made, NumberAct act, int least, int most) {
        dueNot(what + " " + least, act.on(made.get(), least), BEYOND);
        dueNot(what + " " + most, act.on(made.get(), most), BEYOND);
        dueBeyond(what, made, act, least - 1, most + 1, LEAST, MOST, most + 256, most + 65536, least - 65536);
    }

    private static void dueBeyond(String what, Supplier<TouchBench> made, NumberAct act, int... numbers) {
        for (int number : numbers) {
            due(what + " " + number, act.on(made.get(), number), BEYOND);
        }
    }

    private static void dueHeld(String what, TouchBench b, int f, long... points) {
        for (int i = 0; i < points.length; i++) {
            due(what + ", held " + i, b.held(f, i), points[i]);
        }
        due(what + ", held no more", b.held(f, points.length), NONE);
    }

    private static void dueMiss(String what, TouchBench b, int f, long above, long below) {
        due(what + ", MISS above", b.missOf(f, false), above);
        due(what + ", MISS below", b.missOf(f, true), below);
    }

    private static void dueMiddle(String what, TouchBench b, int f, long xAbove, long xBelow, long yAbove, long yBelow) {
        due(what + ", middle x above", b.middle(f, false, false), xAbove);
        due(what + ", middle x below", b.middle(f, false, true), xBelow);
        due(what + ", middle y above", b.middle(f, true, false), yAbove);
        due(what + ", middle y below", b.middle(f, true, true), yBelow);
    }

    private static void dueWay(String what, TouchBench b, int f, long x, long y, long z) {
        due(what + ", way 0", b.way(f, 0), x);
        due(what + ", way 1", b.way(f, 1), y);
        due(what + ", way 2", b.way(f, 2), z);
    }

    private static void dueAxis(String what, TouchBench b, int way, long x, long y, long z) {
        due(what + ", axis " + way + " 0", b.axis(way, 0), x);
        due(what + ", axis " + way + " 1", b.axis(way, 1), y);
        due(what + ", axis " + way + " 2", b.axis(way, 2), z);
    }

    private static void duePoint(String what, TouchBench b, int part, int i, long x, long y, long z) {
        due(what + ", x", b.at(part, i, 0), x);
        due(what + ", y", b.at(part, i, 1), y);
        due(what + ", z", b.at(part, i, 2), z);
    }

    // ---- what the tests are made on

    /** A bench whose part 0 has these points, three numbers each. */
    private static TouchBench bench(int... numbers) {
        TouchBench b = new TouchBench();
        addPoints(b, 0, numbers);
        return b;
    }

    /** The same, with a MISSED point ahead of each: point i has number 2 i + 1. */
    private static TouchBench benchWithMissed(int... numbers) {
        TouchBench b = new TouchBench();
        for (int i = 0; i + 2 < numbers.length; i += 3) {
            b.miss(0);
            b.point(0, numbers[i], numbers[i + 1], numbers[i + 2]);
        }
        return b;
    }

    private static void addPoints(TouchBench b, int part, int... numbers) {
        for (int i = 0; i + 2 < numbers.length; i += 3) {
            b.point(part, numbers[i], numbers[i + 1], numbers[i + 2]);
        }
    }

    private static TouchBench fitted(int kind, int... numbers) {
        TouchBench b = bench(numbers);
        b.fit(0, kind, 0);
        return b;
    }

    /** A bench whose part 0 has a point and a MISSED one, and that has nothing else. */
    private static TouchBench bare() {
        TouchBench b = bench(1, 2, 3);
        b.miss(0);
        return b;
    }

    /**
     * Part 0: four points and a MISSED one; 1: full; 2: empty; 3: a MISSED one alone. Sheets of 7 shorts, 6 ints,
     * 48 doubles, and a MISSING one. Figures: a LINE, a PLANE, a CIRCLE, else none. A frame, 3 corners, 2 boxes.
     */
    private static TouchBench stocked() {
        TouchBench b = bench(0, 0, 0, 10, 0, 0, 10, 10, 1, 0, 10, 0);
        b.miss(0);
        for (int i = 0; i < 16; i++) {
            b.point(1, 5 * i - 40, i * i - 100, 3 * i);
        }
        b.miss(3);
        b.grid(4, 9, -9);
        b.grid(0, 5, 7);
        stockSheets(b);
        b.fit(0, LINE, 0);
        b.fit(1, PLANE, 0);
        b.fit(2, CIRCLE, 0);
        b.frame(1, 1, 0, 0, 0, 1);
        b.corner(-20, -90);
        b.corner(20, -80);
        b.corner(0, 70);
        b.box(-40, -100, -1, 12, 30, 4);
        b.box(-30, -100, 0, 50, 50, 50);
        return b;
    }

    private static void stockSheets(TouchBench b) {
        b.sheet(0, 1, 7);
        b.sheet(1, 2, 6);
        b.sheet(2, 3, 48);
        for (int i = 0; i < 6; i++) {
            b.put(0, i, i + 1);
            b.put(1, i, 10 * i);
            b.put(2, 7 * i, i - 100);
        }
    }

    /** The stock, with a full part 0, outline and boxes. */
    private static TouchBench filled() {
        TouchBench b = stocked();
        for (int i = 5; i < 16; i++) {
            b.point(0, i, -i, i);
        }
        for (int i = 3; i < 10; i++) {
            b.corner(i, -i);
        }
        for (int i = 2; i < 6; i++) {
            b.box(i, -60, i, 10, 10, 10);
        }
        return b;
    }

    // ---- terms: calls and findings

    private static void calls() {
        says("What it is", "An object is used for at most 512 calls after it has been made");
        TouchBench b = new TouchBench();
        for (int i = 0; i < 31; i++) {
            for (int n = 1; n <= 15; n++) {
                due("call " + (16 * i + n), b.point(0, n, i, -n), n);
            }
            due("call " + (16 * i + 16), b.clear(0), 15);
        }
        for (int n = 1; n <= 15; n++) {
            due("call " + (496 + n), b.told(4), BEYOND);
        }
        due("the 512th call", b.told(3), 15);
    }

    private static void findings() {
        says("Terms", "FINDINGS are answers below -10 to the 18");
        TouchBench deep = steepFrame();
        due("a low answer that is none", deep.inFrame(1, 1, 1), -61897262831040000L);
        due("-1 that is none", deep.move(1, 0, 1), -1);
        due("none is counted", deep.told(3), 0);
        due("the highest one is below it", deep.told(-1) < LOW ? 1 : 0, 1);
        due("it is counted", deep.told(3), 1);

        says("Terms", "LOW is -1000000000000000000; LOW - 1 BEYOND, LOW - 2 MISSING, LOW - 3 SIZE, LOW - 4 KIND, "
                + "LOW - 5 FULL, LOW - 6 NONE, LOW - 7 MISSED.");
        due("BEYOND", stocked().clear(4), -1000000000000000001L);
        due("MISSING", stocked().put(3, 0, 0), -1000000000000000002L);
        due("SIZE", stocked().sheet(0, 1, -1), -1000000000000000003L);
        due("KIND", stocked().way(2, 0), -1000000000000000004L);
        due("FULL", stocked().miss(1), -1000000000000000005L);
        due("NONE", stocked().level(3), -1000000000000000006L);
        due("MISSED", stocked().at(3, 0, 0), -1000000000000000007L);

        says("Terms", "All acts answer longs.");
        int acts = 0;
        for (Method method : TouchBench.class.getDeclaredMethods()) {
            if (java.lang.reflect.Modifier.isPublic(method.getModifiers())) {
                acts++;
                due(method.getName() + " answers a long", method.getReturnType() == long.class ? 1 : 0, 1);
            }
        }
        due("acts", acts, 36);
    }

    private static void findingOrder() {
        says("Terms", "Each act tells its findings in the order in which they are asked");
        dueInOrder(stocked(), "point", BEYOND, b -> b.point(1, 301, 0, 0), FULL, b -> b.point(1, 300, 0, 0));
        dueInOrder(stocked(), "at", BEYOND, b -> b.at(0, 4, 3), MISSED, b -> b.at(0, 4, 2));
        dueInOrder(stocked(), "apart", BEYOND, b -> b.apart(2, 3, 2), NONE, b -> b.apart(2, 3, 1));
        dueInOrder(stocked(), "sheet", BEYOND, b -> b.sheet(4, 1, -1), SIZE, b -> b.sheet(3, 1, -1));
        dueInOrder(stocked(), "sheet", BEYOND, b -> b.sheet(3, 4, -1), BEYOND, b -> b.sheet(3, 3, 49));
        dueInOrder(stocked(), "put", BEYOND, b -> b.put(4, 48, 0), MISSING, b -> b.put(3, 48, 0));
        dueInOrder(stocked(), "put", MISSING, b -> b.put(3, -1, 0), BEYOND, b -> b.put(2, -1, 0));
        dueInOrder(stocked(), "bits", BEYOND, b -> b.bits(4, 48, 0), MISSING, b -> b.bits(3, 48, 0));
        dueInOrder(stocked(), "bits", MISSING, b -> b.bits(3, -1, 0), KIND, b -> b.bits(1, -1, 0));
        dueInOrder(stocked(), "bits", KIND, b -> b.bits(0, 48, 0), BEYOND, b -> b.bits(2, 48, 0));
        dueInOrder(stocked(), "copy", BEYOND, b -> b.copy(3, 0, 4, 0, -1), MISSING, b -> b.copy(3, 0, 0, 0, -1));
        dueInOrder(stocked(), "copy", MISSING, b -> b.copy(1, -1, 3, 0, 9), KIND, b -> b.copy(1, -1, 0, 0, 9));
        dueInOrder(stocked(), "copy", KIND, b -> b.copy(0, 0, 1, 0, 99), BEYOND, b -> b.copy(1, 0, 1, 0, 99));
        dueInOrder(stocked(), "lay", BEYOND, b -> b.lay(4, 3), MISSING, b -> b.lay(1, 3));
        dueInOrder(stocked(), "lay", MISSING, b -> b.lay(1, 3), FULL, b -> b.lay(1, 2));
        dueInOrder(stocked(), "fit", BEYOND, b -> b.fit(0, 4, 3), NONE, b -> b.fit(0, 5, 3));
        dueInOrder(stocked(), "as", BEYOND, b -> b.as(3, 6), NONE, b -> b.as(3, 5));
        dueInOrder(stocked(), "as", NONE, b -> b.as(4, 3), KIND, b -> b.as(0, 3));
        dueInOrder(stocked(), "held", BEYOND, b -> b.held(6, 9), NONE, b -> b.held(5, 9));
        dueInOrder(stocked(), "way", BEYOND, b -> b.way(3, 3), NONE, b -> b.way(3, 2));
        dueInOrder(stocked(), "way", BEYOND, b -> b.way(2, -1), KIND, b -> b.way(2, 0));
        dueInOrder(stocked(), "middle", NONE, b -> b.middle(5, true, true), KIND, b -> b.middle(1, true, true));
        dueInOrder(stocked(), "ask", BEYOND, b -> b.ask(3, 2001), NONE, b -> b.ask(3, 2000));
        dueInOrder(stocked(), "more", BEYOND, b -> b.more(3, 0, 0, 2001), NONE, b -> b.more(3, 0, 0, 2000));
        dueInOrder(stocked(), "more", NONE, b -> b.more(2, 0, 3, 0), KIND, b -> b.more(2, 0, 2, 0));
        dueInOrder(stocked(), "more", NONE, b -> b.more(3, 0, 0, 0), KIND, b -> b.more(1, 0, 0, 0));
        orderOfFrames();
        orderOfOutlineAndBoxes();
    }

    private static void orderOfFrames() {
        dueInOrder(stocked(), "frame", BEYOND, b -> b.frame(3, 0, 0, 101, 0, 4), NONE, b -> b.frame(3, 0, 0, 0, 0, 4));
        dueInOrder(stocked(), "frame", BEYOND, b -> b.frame(0, 0, 0, 0, 0, 5), KIND, b -> b.frame(0, 0, 0, 0, 0, 4));
        dueInOrder(stocked(), "frame", NONE, b -> b.frame(3, 0, 0, 0, 0, 4), KIND, b -> b.frame(2, 0, 0, 0, 0, 4));
        dueInOrder(stocked(), "frame", KIND, b -> b.frame(0, 0, 0, 0, 0, 4), MISSED, b -> b.frame(1, 0, 0, 0, 0, 4));
        dueInOrder(stocked(), "frame", MISSED, b -> b.frame(1, 0, 0, 0, 3, 0), SIZE, b -> b.frame(1, 0, 0, 0, 1, 0));
        dueInOrder(new TouchBench(), "axis", BEYOND, b -> b.axis(0, 3), NONE, b -> b.axis(0, 2));
        dueInOrder(bare(), "inFrame", BEYOND, b -> b.inFrame(0, 1, 3), MISSED, b -> b.inFrame(0, 1, 2));
        dueInOrder(bare(), "inFrame", MISSED, b -> b.inFrame(0, 1, 0), NONE, b -> b.inFrame(0, 0, 0));
    }

    private static void orderOfOutlineAndBoxes() {
        dueInOrder(filled(), "corner", BEYOND, b -> b.corner(9, -301), SIZE, b -> b.corner(9, -9));
        dueInOrder(filled(), "corner", SIZE, b -> b.corner(9, -9), FULL, b -> b.corner(9, -8));
        dueInOrder(bare(), "nearest", BEYOND, b -> b.nearest(0, 2), MISSED, b -> b.nearest(0, 1));
        dueInOrder(bare(), "nearest", MISSED, b -> b.nearest(0, 1), NONE, b -> b.nearest(0, 0));
        dueInOrder(bare(), "far", BEYOND, b -> b.far(0, 2, true), MISSED, b -> b.far(0, 1, true));
        dueInOrder(bare(), "far", MISSED, b -> b.far(0, 1, false), NONE, b -> b.far(0, 0, false));
        dueInOrder(filled(), "box", BEYOND, b -> b.box(0, 0, 0, 1, 1, 0), FULL, b -> b.box(0, 0, 0, 1, 1, 1));
        dueInOrder(bare(), "move", BEYOND, b -> b.move(0, 1, 2), MISSED, b -> b.move(0, 1, 0));
    }

    /** The first act could answer both findings, the second one the later alone. */
    private static void dueInOrder(TouchBench b, String what, long first, Act both, long later, Act one) {
        due(what + ", the first of two", both.on(b), first);
        due(what + ", the later alone", one.on(b), later);
    }

    private static void findingsChangeNothing() {
        says("Terms", "an act that answers a finding changes nothing, but where told.");
        for (Refusal refusal : refusalsOfBare()) {
            dueUnchanged(EdgeTests::bare, refusal);
        }
        for (Refusal refusal : refusalsOfStock()) {
            dueUnchanged(EdgeTests::stocked, refusal);
        }
        for (Refusal refusal : refusalsOfFilled()) {
            dueUnchanged(EdgeTests::filled, refusal);
        }
    }

    /** Two benches made alike must look alike though one of them has refused a call; that one alone has counted it. */
    private static void dueUnchanged(Supplier<TouchBench> made, Refusal refusal) {
        for (int look = 0; look < 4; look++) {
            TouchBench plain = made.get();
            TouchBench refusing = made.get();
            due(refusal.what(), refusal.act().on(refusing), refusal.finding());
            due(refusal.what() + " is counted once", refusing.told(3), plain.told(3) + 1);
            List<Long> want = look(plain, look);
            List<Long> got = look(refusing, look);
            due(refusal.what() + " leaves all as it was, look " + look, got.equals(want) ? 1 : 0, 1);
        }
    }

    private static List<Long> look(TouchBench b, int look) {
        List<Long> seen = new ArrayList<>();
        switch (look) {
            case 0 -> lookAtPoints(b, seen);
            case 1 -> lookAtFigures(b, seen);
            case 2 -> lookAtOutlineAndBoxes(b, seen);
            default -> lookAtSheets(b, seen);
        }
        return seen;
    }

    private static void lookAtPoints(TouchBench b, List<Long> seen) {
        for (int part = 0; part < 4; part++) {
            seen.add(b.points(part, false));
            seen.add(b.points(part, true));
            for (int i = 0; i < 16; i++) {
                for (int what = 0; what < 3; what++) {
                    seen.add(b.at(part, i, what));
                }
            }
        }
    }

    private static void lookAtFigures(TouchBench b, List<Long> seen) {
        seen.add(b.told(0));
        for (int f = 0; f < 6; f++) {
            seen.add(b.as(f, 0));
            seen.add(b.level(f));
            for (int i = 0; i < 7; i++) {
                seen.add(b.held(f, i));
            }
            for (int i = 0; i < 4; i++) {
                seen.add(b.missOf(f, i % 2 == 0));
                seen.add(b.middle(f, i / 2 == 0, i % 2 == 0));
                seen.add(b.way(f, i));
            }
        }
        for (int i = 0; i < 9; i++) {
            seen.add(b.axis(i / 3, i % 3));
            seen.add(b.inFrame(1, i, i % 3));
            seen.add(b.inFrame(0, 0, i % 3));
        }
        for (int x = -300; x <= 300; x += 300) {
            for (int y = -300; y <= 300; y += 300) {
                seen.add(b.off(x, y, false));
                seen.add(b.off(x, y, true));
            }
        }
    }

    private static void lookAtOutlineAndBoxes(TouchBench b, List<Long> seen) {
        seen.add(b.told(1));
        seen.add(b.told(2));
        for (int i = 0; i < 16; i++) {
            seen.add(b.nearest(1, i));
            seen.add(b.far(1, i, false));
            seen.add(b.far(1, i, true));
            for (int k = i; k < 16; k++) {
                seen.add(b.move(1, i, k));
            }
        }
        seen.add(b.path(0));
        seen.add(b.path(1));
        seen.add(b.corner(0, 70));
        seen.add(b.corner(9, -9));
        seen.add(b.open());
        seen.add(b.unbox());
    }

    private static void lookAtSheets(TouchBench b, List<Long> seen) {
        for (int s = 0; s < 4; s++) {
            b.clear(2);
            seen.add(b.lay(2, s));
            for (int i = 0; i < 48; i++) {
                seen.add(b.at(2, i / 3, i % 3));
            }
            for (int i = 0; i <= 48; i++) {
                seen.add(b.put(s, i, 0));
            }
            seen.add(b.bits(s, 0, 0));
        }
    }

    private static List<Refusal> refusalsOfBare() {
        return List.of(
                new Refusal("fit of one point to a LINE", b -> b.fit(0, LINE, 0), NONE),
                new Refusal("fit of one point to a PLANE", b -> b.fit(0, PLANE, 0), NONE),
                new Refusal("fit of none to a CIRCLE", b -> b.fit(0, CIRCLE, 1), NONE),
                new Refusal("frame of no figure", b -> b.frame(0, 1, 0, 0, 0, 0), NONE),
                new Refusal("axis without a frame", b -> b.axis(0, 0), NONE),
                new Refusal("inFrame without a frame", b -> b.inFrame(0, 0, 0), NONE),
                new Refusal("nearest without an outline", b -> b.nearest(0, 0), NONE),
                new Refusal("far without an outline", b -> b.far(0, 0, true), NONE),
                new Refusal("put on a MISSING sheet", b -> b.put(0, 0, 1), MISSING),
                new Refusal("bits on a MISSING sheet", b -> b.bits(0, 0, 1), MISSING),
                new Refusal("copy of MISSING sheets", b -> b.copy(0, 0, 1, 0, 0), MISSING),
                new Refusal("lay of a MISSING sheet", b -> b.lay(0, 0), MISSING),
                new Refusal("sheet of -1", b -> b.sheet(0, 2, -1), SIZE),
                new Refusal("sheet of 49", b -> b.sheet(0, 2, 49), BEYOND),
                new Refusal("corner at 301", b -> b.corner(301, 0), BEYOND),
                new Refusal("box of size 0", b -> b.box(0, 0, 0, 1, 0, 1), BEYOND));
    }

    private static List<Refusal> refusalsOfFilled() {
        return List.of(
                new Refusal("point to a full part", b -> b.point(0, 1, 1, 1), FULL),
                new Refusal("point beyond to a full part", b -> b.point(0, 1, 1, 301), BEYOND),
                new Refusal("miss to a full part", b -> b.miss(0), FULL),
                new Refusal("lay to a full part", b -> b.lay(0, 0), FULL),
                new Refusal("corner to a full outline", b -> b.corner(200, 200), FULL),
                new Refusal("the latest corner to a full outline", b -> b.corner(9, -9), SIZE),
                new Refusal("corner beyond to a full outline", b -> b.corner(200, 301), BEYOND),
                new Refusal("box to six", b -> b.box(-60, -100, -60, 120, 120, 120), FULL),
                new Refusal("box beyond to six", b -> b.box(-60, -100, -60, 120, 120, 301), BEYOND));
    }

    private static List<Refusal> refusalsOfStock() {
        List<Refusal> all = new ArrayList<>();
        all.addAll(refusalsOfPoints());
        all.addAll(refusalsOfSheets());
        all.addAll(refusalsOfFigures());
        all.addAll(refusalsOfFrames());
        all.addAll(refusalsOfOutline());
        return all;
    }

    private static List<Refusal> refusalsOfPoints() {
        List<Refusal> all = new ArrayList<>();
        all.add(new Refusal("point of no part", b -> b.point(4, 1, 1, 1), BEYOND));
        all.add(new Refusal("point with x 301", b -> b.point(0, 301, 1, 1), BEYOND));
        all.add(new Refusal("point with y 301", b -> b.point(0, 1, 301, 1), BEYOND));
        all.add(new Refusal("point with z -301", b -> b.point(0, 1, 1, -301), BEYOND));
        all.add(new Refusal("point to a full part", b -> b.point(1, 1, 1, 1), FULL));
        all.add(new Refusal("miss of no part", b -> b.miss(-1), BEYOND));
        all.add(new Refusal("miss to a full part", b -> b.miss(1), FULL));
        all.add(new Refusal("clear of no part", b -> b.clear(4), BEYOND));
        all.add(new Refusal("at of no point", b -> b.at(0, 5, 0), BEYOND));
        all.add(new Refusal("at of a MISSED one", b -> b.at(0, 4, 0), MISSED));
        all.add(new Refusal("points of no part", b -> b.points(4, true), BEYOND));
        all.add(new Refusal("mend of no part", b -> b.mend(-1), BEYOND));
        all.add(new Refusal("grid at no corner", b -> b.grid(9, 1, 1), BEYOND));
        all.add(new Refusal("grid of x 51", b -> b.grid(8, 51, 1), BEYOND));
        all.add(new Refusal("grid of y -51", b -> b.grid(8, 1, -51), BEYOND));
        all.add(new Refusal("off at 301", b -> b.off(301, 0, false), BEYOND));
        all.add(new Refusal("apart of no part", b -> b.apart(0, 4, 0), BEYOND));
        all.add(new Refusal("apart of an empty one", b -> b.apart(0, 2, 0), NONE));
        return all;
    }

    private static List<Refusal> refusalsOfSheets() {
        List<Refusal> all = new ArrayList<>();
        all.add(new Refusal("sheet of no number", b -> b.sheet(4, 1, 3), BEYOND));
        all.add(new Refusal("sheet of no kind", b -> b.sheet(0, 4, 3), BEYOND));
        all.add(new Refusal("sheet of -1", b -> b.sheet(0, 2, -1), SIZE));
        all.add(new Refusal("sheet of 49", b -> b.sheet(0, 2, 49), BEYOND));
        all.add(new Refusal("no sheet of -1", b -> b.sheet(0, 0, -1), SIZE));
        all.add(new Refusal("no sheet of 49", b -> b.sheet(0, 0, 49), BEYOND));
        all.add(new Refusal("put on no sheet", b -> b.put(4, 0, 7), BEYOND));
        all.add(new Refusal("put on a MISSING sheet", b -> b.put(3, 0, 7), MISSING));
        all.add(new Refusal("put at no number", b -> b.put(0, 7, 7), BEYOND));
        all.add(new Refusal("put at number -1", b -> b.put(1, -1, 7), BEYOND));
        all.add(new Refusal("bits on a MISSING sheet", b -> b.bits(3, 0, 0), MISSING));
        all.add(new Refusal("bits on shorts", b -> b.bits(0, 0, 0), KIND));
        all.add(new Refusal("bits on ints", b -> b.bits(1, 1, 0), KIND));
        all.add(new Refusal("bits at no number", b -> b.bits(2, 48, 0), BEYOND));
        all.add(new Refusal("copy to no sheet", b -> b.copy(2, 0, 4, 0, 3), BEYOND));
        all.add(new Refusal("copy to a MISSING sheet", b -> b.copy(2, 0, 3, 0, 3), MISSING));
        all.add(new Refusal("copy from a MISSING sheet", b -> b.copy(3, 0, 2, 0, 3), MISSING));
        all.add(new Refusal("copy to another kind", b -> b.copy(0, 0, 1, 0, 3), KIND));
        all.add(new Refusal("copy of too many", b -> b.copy(2, 40, 2, 0, 9), BEYOND));
        all.add(new Refusal("copy to too few", b -> b.copy(2, 0, 2, 40, 9), BEYOND));
        all.add(new Refusal("copy from -1", b -> b.copy(2, -1, 2, 0, 3), BEYOND));
        all.add(new Refusal("copy to -1", b -> b.copy(2, 0, 2, -1, 3), BEYOND));
        all.add(new Refusal("copy of -1", b -> b.copy(2, 5, 2, 0, -1), BEYOND));
        all.add(new Refusal("lay to no part", b -> b.lay(4, 0), BEYOND));
        all.add(new Refusal("lay of no sheet", b -> b.lay(0, 4), BEYOND));
        all.add(new Refusal("lay of a MISSING sheet", b -> b.lay(0, 3), MISSING));
        all.add(new Refusal("lay of too many", b -> b.lay(0, 2), FULL));
        all.add(new Refusal("lay to a full part", b -> b.lay(1, 0), FULL));
        return all;
    }

    private static List<Refusal> refusalsOfFigures() {
        List<Refusal> all = new ArrayList<>();
        all.add(new Refusal("fit of no figure", b -> b.fit(6, LINE, 1), BEYOND));
        all.add(new Refusal("fit of no kind that is fitted", b -> b.fit(0, 4, 1), BEYOND));
        all.add(new Refusal("fit of no part", b -> b.fit(0, LINE, 4), BEYOND));
        all.add(new Refusal("fit of a LINE to nothing", b -> b.fit(2, LINE, 2), NONE));
        all.add(new Refusal("fit of a PLANE to nothing", b -> b.fit(0, PLANE, 3), NONE));
        all.add(new Refusal("fit of a CIRCLE to nothing", b -> b.fit(1, CIRCLE, 3), NONE));
        all.add(new Refusal("fit of none to nothing", b -> b.fit(5, LINE, 3), NONE));
        all.add(new Refusal("drop of no figure", b -> b.drop(6), BEYOND));
        all.add(new Refusal("as of no kind", b -> b.as(0, 6), BEYOND));
        all.add(new Refusal("as of none", b -> b.as(3, 0), NONE));
        all.add(new Refusal("as of another kind", b -> b.as(0, CIRCLE), KIND));
        all.add(new Refusal("held of no figure", b -> b.held(6, 0), BEYOND));
        all.add(new Refusal("held of none", b -> b.held(3, 0), NONE));
        all.add(new Refusal("held of no such", b -> b.held(0, 4), NONE));
        all.add(new Refusal("missOf of no figure", b -> b.missOf(-1, true), BEYOND));
        all.add(new Refusal("missOf of none", b -> b.missOf(3, true), NONE));
        all.add(new Refusal("way of no number", b -> b.way(0, 3), BEYOND));
        all.add(new Refusal("way of none", b -> b.way(3, 0), NONE));
        all.add(new Refusal("way of a CIRCLE", b -> b.way(2, 0), KIND));
        all.add(new Refusal("middle of no figure", b -> b.middle(6, true, true), BEYOND));
        all.add(new Refusal("middle of none", b -> b.middle(3, true, true), NONE));
        all.add(new Refusal("middle of a LINE", b -> b.middle(0, true, true), KIND));
        all.add(new Refusal("ask of 2001", b -> b.ask(0, 2001), BEYOND));
        all.add(new Refusal("ask of none", b -> b.ask(3, 0), NONE));
        all.add(new Refusal("level of no figure", b -> b.level(6), BEYOND));
        all.add(new Refusal("level of none", b -> b.level(3), NONE));
        all.add(new Refusal("more of t -1", b -> b.more(0, -1, 2, 0), BEYOND));
        all.add(new Refusal("more of none", b -> b.more(0, 0, 3, 0), NONE));
        all.add(new Refusal("more of a CIRCLE", b -> b.more(2, 0, 2, 0), KIND));
        return all;
    }

    /** The way of the PLANE in stock is (1, 1, -20). */
    private static List<Refusal> refusalsOfFrames() {
        List<Refusal> all = new ArrayList<>();
        all.add(new Refusal("frame of no figure", b -> b.frame(6, 0, 1, 0, 0, 0), BEYOND));
        all.add(new Refusal("frame of x 101", b -> b.frame(1, 101, 1, 0, 0, 0), BEYOND));
        all.add(new Refusal("frame at no point", b -> b.frame(1, 0, 1, 0, 0, 5), BEYOND));
        all.add(new Refusal("frame of none", b -> b.frame(3, 0, 1, 0, 0, 0), NONE));
        all.add(new Refusal("frame of a LINE", b -> b.frame(0, 0, 1, 0, 0, 0), KIND));
        all.add(new Refusal("frame of a CIRCLE", b -> b.frame(2, 0, 1, 0, 0, 0), KIND));
        all.add(new Refusal("frame at a MISSED point", b -> b.frame(1, 0, 1, 0, 0, 4), MISSED));
        all.add(new Refusal("frame along the first way", b -> b.frame(1, 2, 2, -40, 0, 0), SIZE));
        all.add(new Refusal("frame against the first way", b -> b.frame(1, -1, -1, 20, 0, 0), SIZE));
        all.add(new Refusal("frame of no direction", b -> b.frame(1, 0, 0, 0, 0, 0), SIZE));
        all.add(new Refusal("axis of no way", b -> b.axis(3, 0), BEYOND));
        all.add(new Refusal("inFrame of no way", b -> b.inFrame(0, 0, 3), BEYOND));
        all.add(new Refusal("inFrame of a MISSED point", b -> b.inFrame(0, 4, 0), MISSED));
        return all;
    }

    private static List<Refusal> refusalsOfOutline() {
        List<Refusal> all = new ArrayList<>();
        all.add(new Refusal("corner at x -301", b -> b.corner(-301, 0), BEYOND));
        all.add(new Refusal("corner at y 301", b -> b.corner(0, 301), BEYOND));
        all.add(new Refusal("the latest corner", b -> b.corner(0, 70), SIZE));
        all.add(new Refusal("nearest to no point", b -> b.nearest(0, 5), BEYOND));
        all.add(new Refusal("nearest to a MISSED point", b -> b.nearest(0, 4), MISSED));
        all.add(new Refusal("far of no point", b -> b.far(0, 5, true), BEYOND));
        all.add(new Refusal("far of a MISSED point", b -> b.far(0, 4, true), MISSED));
        all.add(new Refusal("box of size 0", b -> b.box(-60, -100, -60, 120, 120, 0), BEYOND));
        all.add(new Refusal("box beyond 300", b -> b.box(-60, 250, -60, 120, 51, 120), BEYOND));
        all.add(new Refusal("box from -301", b -> b.box(-301, -100, -60, 300, 120, 120), BEYOND));
        all.add(new Refusal("move to no point", b -> b.move(0, 0, 5), BEYOND));
        all.add(new Refusal("move to a MISSED point", b -> b.move(0, 0, 4), MISSED));
        all.add(new Refusal("path of no part", b -> b.path(4), BEYOND));
        all.add(new Refusal("told of another what", b -> b.told(4), BEYOND));
        return all;
    }

    // ---- terms 1 and 2: parts, fractions, figures

    private static void parts() {
        says("Term 1", "PARTS 0 to 3 are rows of up to 16 POINTS, each with x, y, z (-300 to 300 each), or MISSED; "
                + "without any at first.");
        for (int part = 0; part < 4; part++) {
            TouchBench b = new TouchBench();
            due("part " + part + " without any", b.points(part, false), 0);
            for (int i = 0; i < 16; i++) {
                boolean touched = i % 4 != 3;
                due("part " + part + " point " + i, touched ? b.point(part, 300 - i, i - 300, i) : b.miss(part), i + 1);
            }
            due("part " + part + " has not a seventeenth", b.miss(part), FULL);
            duePoint("the first of part " + part, b, part, 0, 300, -300, 0);
            due("the last of part " + part, b.at(part, 15, 0), MISSED);
            for (int other = 0; other < 4; other++) {
                due("points of part " + other, b.points(other, false), other == part ? 16 : 0);
            }
        }

        says("Term 1", "Only points that are not MISSED count in what follows.");
        // MISSED points stand where a clear() has left old ones: those old places must not be looked at.
        TouchBench b = bench(-300, 300, 300, 300, 300, 300, 0, -300, -300);
        b.clear(0);
        b.miss(0);
        b.miss(0);
        b.miss(0);
        due("mend", b.mend(0), 0);
        due("LINE", b.fit(0, LINE, 0), NONE);
        due("PLANE", b.fit(0, PLANE, 0), NONE);
        due("CIRCLE", b.fit(0, CIRCLE, 0), NONE);
        addPoints(b, 0, 0, 0, 0, 10, 0, 0, 0, 10, 0);
        b.miss(0);
        b.fit(0, LINE, 0);
        b.fit(1, PLANE, 0);
        b.fit(2, CIRCLE, 0);
        // The longest side, from 4 to 5, is the best: by (-10, 10) the CROSS of 3 is 100, squared by 200.
        dueHeld("LINE", b, 0, 4, 5, 3, 4);
        dueMiss("LINE", b, 0, 50, 1);
        dueHeld("PLANE", b, 1, 3, 4, 3, 5, 3, 3);
        dueHeld("CIRCLE", b, 2, 4, 5);
        b.box(-300, -300, -300, 300, 300, 300);
        due("path", b.path(0), -1);
    }

    private static void fractions() {
        says("Terms", "A FRACTION is told above the line and below it, in lowest terms, below it above 0 (0 is 0 by 1).");
        dueMiss("of a LINE 900 by 36 is 25 by 1", fitted(LINE, 0, 0, 0, 6, 0, 0, 3, 5, 0, 6, 5, 0, 0, 5, 0), 0, 25, 1);
        dueMiss("of a LINE 0 by 25", fitted(LINE, 0, 0, 0, 3, 4, 0), 0, 0, 1);
        dueMiss("of a PLANE 0 by 1", fitted(PLANE, 0, 0, 0, 9, 0, 0, 0, 9, 0), 0, 0, 1);
        dueMiss("of a CIRCLE 0 by 1", fitted(CIRCLE, 9, 9, 0), 0, 0, 1);
        dueMiss("of a CIRCLE 16 by 4", fitted(CIRCLE, 0, 0, 0, 4, 0, 0), 0, 4, 1);
        dueMiddle("below 0, by 2", fitted(CIRCLE, -3, 2, 0, 0, -5, 0), 0, -3, 2, -3, 2);
        dueMiddle("0 by 1", fitted(CIRCLE, -3, 2, 0, 3, -2, 0), 0, 0, 1, 0, 1);
        // Turned to the right the three tell a scale below 0 that must not come below the line.
        dueMiddle("three turned to the left", fitted(CIRCLE, 0, 0, 0, -4, 0, 0, -2, -3, 0), 0, -2, 1, -5, 6);
        dueMiddle("three turned to the right", fitted(CIRCLE, 0, 0, 0, -2, -3, 0, -4, 0, 0), 0, -2, 1, -5, 6);
        TouchBench b = bench(3, 6, 0, 0, 10, 0);
        b.corner(0, 0);
        b.corner(4, 8);
        due("far of a point on a piece", b.far(0, 0, false), 0);
        due("far of a point on a piece, below", b.far(0, 0, true), 1);
        due("far of a point beside the end", b.far(0, 1, false), 20);
        due("far of a point beside the end, below", b.far(0, 1, true), 1);
    }

    private static void figureKinds() {
        says("Term 2", "FIGURES 0 to 5 are of a kind, or none: 0 FIGURE (all), 1 FLAT under FIGURE, 2 LINE under FLAT, "
                + "3 PLANE under FLAT, 4 ROUND under FIGURE, 5 CIRCLE under ROUND.");
        for (int f = 0; f < 6; f++) {
            TouchBench b = bench(0, 0, 0, 9, 0, 0, 0, 9, 0);
            due("figure " + f + " is none", b.as(f, 0), NONE);
            dueKinds(b, f, LINE, 0, 1, 2);
            dueKinds(b, f, PLANE, 0, 1, 3);
            dueKinds(b, f, CIRCLE, 0, 4, 5);
            due("no other than " + f, b.told(0), 1);
        }
    }

    private static void dueKinds(TouchBench b, int f, int kind, int... kinds) {
        b.fit(f, kind, 0);
        for (int wanted = 0; wanted < 6; wanted++) {
            boolean is = false;
            for (int one : kinds) {
                is |= one == wanted;
            }
            due(kind + " as " + wanted, b.as(f, wanted), is ? kind : KIND);
        }
    }

    private static void lines() {
        says("Term 2", "LINE (by x and y alone): for points i below k that are not at one place (by x, y)");
        TouchBench upright = fitted(LINE, 0, 0, 0, 0, 0, 9, 5, 0, 0, 0, 0, -9, 5, 0, 300);
        dueHeld("pairs at one place", upright, 0, 0, 2, 0, 0);
        dueMiss("pairs at one place", upright, 0, 0, 1);
        dueHeld("the first place twice", fitted(LINE, 1, 1, 1, 1, 1, 2, 1, 2, 3), 0, 0, 2, 0, 0);
        dueHeld("unlike in x alone", fitted(LINE, 1, 1, 1, 2, 1, 1), 0, 0, 1, 0, 0);
        dueHeld("unlike in y alone", fitted(LINE, 1, 1, 1, 1, 2, 1), 0, 0, 1, 0, 0);
        TouchBench behindPlane = fitted(PLANE, 0, 0, 0, 10, 0, 200, 5, 3, -100, 5, 1, 300);
        behindPlane.fit(0, LINE, 0);
        dueHeld("not by z, behind a PLANE", behindPlane, 0, 0, 1, 2, 0);
        dueMiss("not by z, behind a PLANE", behindPlane, 0, 9, 1);

        says("Term 2", "the CROSS of a point p is dx times (its y less i's) less dy times (its x less i's)");
        dueHeld("to the left is above 0", fitted(LINE, 0, 0, 0, 10, 0, 0, 5, 3, 0), 0, 0, 1, 2, 0);
        dueHeld("to the right is below 0", fitted(LINE, 0, 0, 0, 10, 0, 0, 5, -3, 0), 0, 0, 1, 0, 2);
        dueHeld("up, to the left", fitted(LINE, 7, 0, 0, 7, 10, 0, 4, 5, 0), 0, 0, 1, 2, 0);
        dueHeld("up, to the right", fitted(LINE, 7, 0, 0, 7, 10, 0, 9, 5, 0), 0, 0, 1, 0, 2);

        says("Term 2", "MISS is the greatest CROSS less the least, its square by dx dx + dy dy.");
        dueMiss("30 squared by 100", fitted(LINE, 0, 0, 0, 10, 0, 0, 5, 3, 0), 0, 9, 1);
        // (0,1) 289 by 25, (0,2) 289 by 50, (1,2) 289 by 13.
        dueMiss("17 squared by 50", fitted(LINE, 0, 0, 0, 3, 4, 0, 1, 7, 0), 0, 289, 50);
        dueMiss("the widest", fitted(LINE, -300, -300, 0, 300, -300, 0, 300, 300, 0, -300, 300, 0), 0, 360000, 1);

        says("Term 2", "That pair for which MISS is least; of several the first by i, then by k.");
        dueHeld("the last pair", fitted(LINE, 0, 5, 0, 100, 0, 0, -100, 0, 0), 0, 1, 2, 1, 0);
        // Both long sides of a strip have MISS 2: (0, 3) and (1, 2).
        dueHeld("by i ahead of k", fitted(LINE, 0, 0, 0, 0, 2, 0, 10, 2, 0, 10, 0, 0), 0, 0, 3, 1, 0);
        // All sides of a square are alike: (0, 1), (0, 3), (1, 2), (2, 3).
        dueHeld("then by k", fitted(LINE, 0, 0, 0, 10, 0, 0, 10, 10, 0, 0, 10, 0), 0, 0, 1, 2, 0);
        dueHeld("three on one line", fitted(LINE, 5, 5, 0, 0, 0, 0, 9, 9, 0), 0, 0, 1, 0, 0);
        // The CROSS is 1 by each pair: 1 by 10, by 1, by 17.
        TouchBench close = fitted(LINE, 5, 3, 0, 2, 2, 0, 6, 3, 0);
        dueHeld("less than 1, the least", close, 0, 1, 2, 0, 1);
        dueMiss("less than 1, the least", close, 0, 1, 17);

        says("Term 2", "HELD: i, k, the first point with the greatest CROSS, the first with the least.");
        dueHeld("two are greatest", fitted(LINE, 0, 0, 0, 10, 0, 0, 3, 3, 0, 7, 3, 0), 0, 0, 1, 2, 0);
        dueHeld("two are least", fitted(LINE, 0, 0, 0, 10, 0, 0, 3, -3, 0, 7, -3, 0), 0, 0, 1, 0, 2);
        dueHeld("the first is greatest", fitted(LINE, 3, 3, 0, 0, 0, 0, 10, 0, 0, 4, 2, 0, 1, 2, 0), 0, 1, 2, 0, 1);
        // (0, 3) and (1, 2) both have MISS 3: by the first of them, 1 long to the right, 0 and 3 are greatest.
        dueHeld("the first itself", fitted(LINE, 3, 3, 0, 0, 0, 0, 10, 0, 0, 4, 3, 0, 1, 2, 0), 0, 0, 3, 0, 1);
        TouchBench missed = benchWithMissed(0, 0, 0, 10, 0, 0, 5, 3, 0);
        due("four hold it", missed.fit(5, LINE, 0), 4);
        dueHeld("numbers of the part", missed, 5, 1, 3, 5, 1);
    }

    private static void planes() {
        says("Term 2", "PLANE: for pairs of points i below k, and j below l, the first pair ahead of the second "
                + "(by i and j, then by k and l)");
        // A PLANE of three points, one above it: turned about, the pairs would make the highest point the least one.
        TouchBench roof = fitted(PLANE, 0, 0, 0, 90, 0, 0, 0, 90, 0, 9, 9, 5);
        dueHeld("both pairs from one point", roof, 0, 0, 1, 0, 2, 3, 0);
        dueMiss("both pairs from one point", roof, 0, 25, 1);
        TouchBench cellar = fitted(PLANE, 0, 0, 0, 90, 0, 0, 0, 90, 0, 9, 9, -5);
        dueHeld("both pairs from one point, below", cellar, 0, 0, 1, 0, 2, 0, 3);
        // Diagonals (10,10,4) and (-10,10,0): NORMAL (-40,-40,200), CROSS 0, -400, 0, -400.
        TouchBench crossing = fitted(PLANE, 0, 0, 0, 10, 0, 0, 10, 10, 4, 0, 10, 0);
        dueHeld("pairs of four points", crossing, 0, 0, 2, 1, 3, 0, 1);
        dueMiss("pairs of four points", crossing, 0, 100, 27);
        // (4,1,2) and (-2,2,-2): NORMAL (-6,4,10), CROSS 0, 2, 2, 0: 4 by 152.
        TouchBench within = fitted(PLANE, 0, 0, 0, 3, 0, 2, 1, 2, 0, 4, 1, 2);
        dueHeld("the second pair between the first's numbers", within, 0, 0, 3, 1, 2, 1, 0);
        dueMiss("the second pair between the first's numbers", within, 0, 1, 38);
        // The best are 710736 squared by 2422227940: products with another's length do not fit 64 bits.
        TouchBench wide = fitted(PLANE, -45, 176, -247, 67, 242, -271, 176, -45, -247, -67, 242, -271);
        dueHeld("far apart", wide, 0, 0, 1, 2, 3, 0, 2);

        says("Term 2", "the NORMAL is the cross product of what leads from i to k and of what leads from j to l "
                + "(x: dy ez - dz ey, and so on round)");
        dueWay("x and y", fitted(PLANE, 0, 0, 0, 1, 0, 0, 0, 1, 0), 0, 0, 0, 1);
        dueWay("y and z", fitted(PLANE, 0, 0, 0, 0, 1, 0, 0, 0, 1), 0, 1, 0, 0);
        dueWay("z and x", fitted(PLANE, 0, 0, 0, 0, 0, 1, 1, 0, 0), 0, 0, 1, 0);
        // (1,2,3) and (4,5,7): 14 - 15, 12 - 7, 5 - 8.
        dueWay("all numbers", fitted(PLANE, 1, 1, 1, 2, 3, 4, 5, 6, 8), 0, 1, -5, 3);

        says("Term 2", "those are left out of which it is 0.");
        TouchBench inLine = fitted(PLANE, 0, 0, 0, 1, 1, 1, 2, 2, 2, 0, 0, 5);
        dueHeld("pairs along one line", inLine, 0, 0, 1, 0, 3, 0, 0);
        TouchBench twice = fitted(PLANE, 0, 0, 0, 0, 0, 0, 1, 0, 0, 0, 1, 0);
        dueHeld("a point twice", twice, 0, 0, 2, 0, 3, 0, 0);

        says("Term 2", "CROSS of a point p: the NORMAL's product with what leads from i to p; MISS likewise, "
                + "its square by the NORMAL's length squared.");
        // (-3,-1,-3) and (-2,0,3): NORMAL (-3,15,-2), CROSS 0, 0, -36, -36: 1296 by 238.
        TouchBench below = fitted(PLANE, 3, 4, 4, 0, 3, 1, 2, 1, 1, 0, 1, 4);
        dueMiss("36 squared by 238", below, 0, 648, 119);
        dueHeld("36 squared by 238", below, 0, 0, 1, 2, 3, 0, 2);
        TouchBench widest = fitted(PLANE, -300, -300, -300, 300, 300, -300, 300, -300, 300, -300, 300, 300);
        dueMiss("the widest", widest, 0, 360000, 1);

        says("Term 2", "That of the least MISS; of several the first by i, k, j, l.");
        // (0,1), (2,3) and (0,3), (1,2) have MISS 3 by 2: by i, j, k, l the other one would be the first.
        TouchBench tie = fitted(PLANE, 2, 0, 2, 3, 0, 4, 3, 2, 3, 4, 0, 3);
        dueHeld("k ahead of j", tie, 0, 0, 1, 2, 3, 2, 0);
        dueMiss("k ahead of j", tie, 0, 3, 2);
        TouchBench flat = fitted(PLANE, 0, 0, 7, 5, 0, 7, 5, 5, 7, 0, 5, 7);
        dueHeld("all are alike", flat, 0, 0, 1, 0, 2, 0, 0);
        TouchBench late = fitted(PLANE, 9, 9, 5, 0, 0, 0, 90, 0, 0, 0, 90, 0);
        dueHeld("the last are least", late, 0, 1, 2, 1, 3, 0, 1);

        says("Term 2", "HELD: i, k, j, l, the first point with the greatest CROSS, the first with the least.");
        TouchBench two = fitted(PLANE, 0, 0, 0, 90, 0, 0, 0, 90, 0, 9, 9, 5, 8, 8, 5);
        dueHeld("two are greatest", two, 0, 0, 1, 0, 2, 3, 0);
        TouchBench least = fitted(PLANE, 0, 0, 0, 90, 0, 0, 0, 90, 0, 9, 9, -5, 8, 8, -5);
        dueHeld("two are least", least, 0, 0, 1, 0, 2, 0, 3);
        TouchBench missed = benchWithMissed(0, 0, 0, 90, 0, 0, 0, 90, 0, 9, 9, 5);
        due("six hold it", missed.fit(5, PLANE, 0), 6);
        dueHeld("numbers of the part", missed, 5, 1, 3, 1, 5, 7, 1);
    }

    private static void circles() {
        says("Term 2", "CIRCLE (by x and y alone): the least circle that has no point outside; MISS: its radius, squared.");
        TouchBench inner = fitted(CIRCLE, 0, 0, 300, 1, 1, -300, 6, 0, 0, 3, -3, 9, 3, 2, 8);
        dueMiss("over a pair", inner, 0, 9, 1);
        dueMiddle("over a pair", inner, 0, 3, 1, 0, 1);
        TouchBench outside = fitted(CIRCLE, 0, 0, 0, 6, 0, 0, 3, 4, 0);
        dueMiss("a point outside of the pair's", outside, 0, 625, 64);
        dueMiddle("a point outside of the pair's", outside, 0, 3, 1, 7, 8);
        TouchBench widest = fitted(CIRCLE, -300, -300, 0, 300, -300, 0, 300, 300, 0, -300, 300, 0);
        dueMiss("the widest", widest, 0, 180000, 1);
        // The circle of (0,0), (10,0), (5,-1) has no point outside, too; of radius 13, it is not the least.
        int[][] orders = {{0, 1, 2, 3}, {0, 2, 1, 3}, {2, 0, 1, 3}, {3, 2, 1, 0}};
        int[] places = {0, 0, 0, 10, 0, 0, 5, -1, 0, 5, 9, 0};
        for (int[] order : orders) {
            TouchBench least = new TouchBench();
            for (int of : order) {
                least.point(0, places[3 * of], places[3 * of + 1], places[3 * of + 2]);
            }
            least.fit(0, CIRCLE, 0);
            dueMiss("three with a blunt corner have a greater one", least, 0, 2809, 81);
            dueMiddle("three with a blunt corner have a greater one", least, 0, 5, 1, 28, 9);
        }
        TouchBench slight = fitted(CIRCLE, 0, 0, 0, 2, 1, 0, 1, -1, 0);
        dueMiss("three near together", slight, 0, 25, 18);
        dueMiddle("three near together", slight, 0, 7, 6, 1, 6);

        says("Term 2", "HELD: the first pair (i below k, by i, then k) whose midpoint is its middle, and that lies on it");
        dueHeld("by i", fitted(CIRCLE, 0, 0, 0, 10, 0, 0, 0, 10, 0, 10, 10, 0), 0, 0, 3);
        dueHeld("by i, the other way", fitted(CIRCLE, 0, 0, 0, 10, 0, 0, 10, 10, 0, 0, 10, 0), 0, 0, 2);
        dueHeld("then by k", fitted(CIRCLE, 0, 0, 0, 6, 0, 1, 6, 0, 2), 0, 0, 1);
        dueHeld("the midpoint alone is not enough", fitted(CIRCLE, 2, 0, 0, 4, 0, 0, 0, 0, 0, 6, 0, 0), 0, 2, 3);
        dueHeld("on it alone is not enough", fitted(CIRCLE, 0, 5, 0, 5, 0, 0, 3, 4, 0, -5, 0, 0), 0, 1, 3);
        dueHeld("a right corner's longest side", fitted(CIRCLE, 0, 0, 0, 6, 0, 0, 0, 8, 0), 0, 1, 2);

        says("Term 2", "if there is none the first three (i below j below k) whose circle it is "
                + "(three places that lie on it, blunt ones, too).");
        dueHeld("three", fitted(CIRCLE, 0, 0, 0, 6, 0, 0, 3, 4, 0), 0, 0, 1, 2);
        // On a circle of radius 65: the first three lie within a quarter of it.
        TouchBench blunt = fitted(CIRCLE, 0, 0, 0, 65, 0, 0, 63, 16, 0, 65, 0, 9, 60, 25, 0, -33, 56, 0, -33, -56, 0);
        dueHeld("blunt, each place once", blunt, 0, 1, 2, 4);
        dueMiss("blunt, each place once", blunt, 0, 4225, 1);
        TouchBench firstTwice = fitted(CIRCLE, 65, 0, 1, 65, 0, 2, -33, 56, 3, 65, 0, 4, -33, 56, 5, -33, -56, 6);
        dueHeld("the first place three times", firstTwice, 0, 0, 2, 5);
        // The pair ahead has the middle for its midpoint, but lies inside.
        TouchBench pairInside = fitted(CIRCLE, 1, 0, 0, -1, 0, 0, 65, 0, 0, -33, 56, 0, -33, -56, 0);
        dueHeld("a pair that does not lie on it", pairInside, 0, 2, 3, 4);
        TouchBench missed = benchWithMissed(0, 0, 0, 6, 0, 0, 3, 4, 0);
        due("three hold it", missed.fit(5, CIRCLE, 0), 3);
        dueHeld("numbers of the part", missed, 5, 1, 3, 5);

        says("Term 2", "(Of points all at one place: of radius 0, held by the first one alone.)");
        TouchBench one = fitted(CIRCLE, -7, 4, 2);
        dueHeld("one point", one, 0, 0);
        dueMiddle("one point", one, 0, -7, 1, 4, 1);
        TouchBench many = benchWithMissed(8, 8, 1, 8, 8, 2, 8, 8, 1);
        due("three points at one place", many.fit(0, CIRCLE, 0), 1);
        dueHeld("three points at one place", many, 0, 1);
        dueMiss("three points at one place", many, 0, 0, 1);
        dueMiddle("three points at one place", many, 0, 8, 1, 8, 1);
        dueHeld("not all at one place", fitted(CIRCLE, 8, 8, 1, 8, 8, 2, 8, 9, 1), 0, 0, 2);
        dueHeld("not all at one place, by x", fitted(CIRCLE, 8, 8, 1, 8, 8, 2, 9, 8, 1), 0, 0, 2);
    }

    // ---- term 3: the grid

    private static void gridTerms() {
        says("Term 3", "at each of the nine places x, y of -300, 0, 300 how much x, and y, are told too great there "
                + "(-50 to 50; 0 at first).");
        TouchBench b = new TouchBench();
        for (int corner = 0; corner < 9; corner++) {
            int x = 300 * (corner % 3) - 300;
            int y = 300 * (corner / 3) - 300;
            due("0 at first, x", b.off(x, y, false), 0);
            due("0 at first, y", b.off(x, y, true), 0);
            due("50, -50", b.grid(corner, 50, -50), 1);
            due("too great, x", b.off(x, y, false), 50);
            due("too great, y", b.off(x, y, true), -50);
            due("-50, 50", b.grid(corner, -50, 50), 1);
            due("51", b.grid(corner, 51, 0), BEYOND);
            due("-51", b.grid(corner, 0, -51), BEYOND);
            due("too great, x", b.off(x, y, false), -50);
            due("too great, y", b.off(x, y, true), 50);
            b.grid(corner, 0, 0);
        }
    }

    private static void mending() {
        says("Term 3", "x becomes less by what the GRID tells at its place");
        TouchBench less = bench(-300, 0, 7);
        less.grid(3, -20, 0);
        due("one changes", less.mend(0), 1);
        duePoint("less by -20", less, 0, 0, -280, 0, 7);

        says("Term 3", "of the four corners of its square (300 wide; where it is on a line between two the one of "
                + "greater numbers, at 300 the last)");
        dueOnLines();

        says("Term 3", "the mean of them weighed by (300 - u) (300 - v), u (300 - v), (300 - u) v, u v, u and v being "
                + "how far it is from the square's least corner in x and y");
        for (int square = 0; square < 4; square++) {
            int x = square % 2 * 300 - 200;
            int y = square / 2 * 300 - 100;
            int least = square / 2 * 3 + square % 2;
            // u 100, v 200; 45 by 90000 times 20000, 10000, 40000, 20000.
            dueWeight(least, x, y, 10);
            dueWeight(least + 1, x, y, 5);
            dueWeight(least + 3, x, y, 20);
            dueWeight(least + 4, x, y, 10);
        }

        says("Term 3", "by 90000, cut down (the greatest whole number not above)");
        TouchBench cut = new TouchBench();
        cut.grid(4, 50, -50);
        due("50 by 90000", cut.off(299, 299, false), 0);
        due("-50 by 90000", cut.off(299, 299, true), -1);
        due("11.1", cut.off(200, 100, false), 11);
        due("-11.1", cut.off(200, 100, true), -12);
        due("25 is whole", cut.off(150, 0, false), 25);
        due("-25 is whole", cut.off(150, 0, true), -25);

        says("Term 3", "y likewise, by the same place");
        TouchBench same = bench(-10, 5, 0);
        same.grid(3, -50, 0);
        same.grid(4, -50, 0);
        same.grid(5, 0, 30);
        // Of x -49.2, cut down to -50. At x -10 nothing is told for y; at x 40, where the point comes to, 3 would be.
        due("changes", same.mend(0), 1);
        duePoint("y by the place as told", same, 0, 0, 40, 5, 0);
        TouchBench ofY = bench(0, -300, 9);
        ofY.grid(1, 0, 17);
        ofY.mend(0);
        duePoint("y alone, cut", ofY, 0, 0, 0, -300, 9);
        TouchBench up = bench(0, 300, 9);
        up.grid(7, 0, 17);
        up.mend(0);
        duePoint("y alone", up, 0, 0, 0, 283, 9);

        says("Term 3", "cut to -300 .. 300.");
        TouchBench bounds = bench(-300, -300, 0, 300, 300, 0, -299, -300, 0, 300, 299, 0);
        bounds.grid(0, 50, 50);
        bounds.grid(1, 50, 50);
        bounds.grid(8, -50, -50);
        bounds.grid(5, -50, -50);
        due("those that the cut brings back have not changed", bounds.mend(0), 2);
        duePoint("cut at -300", bounds, 0, 0, -300, -300, 0);
        duePoint("cut at 300", bounds, 0, 1, 300, 300, 0);
        duePoint("cut to -300", bounds, 0, 2, -300, -300, 0);
        duePoint("cut to 300", bounds, 0, 3, 300, 300, 0);
        TouchBench just = bench(-250, -300, 0);
        just.grid(0, 50, 0);
        just.grid(1, 50, 0);
        just.mend(0);
        due("just -300", just.at(0, 0, 0), -300);
    }

    /** On a line the corners beside it alone count, so both squares tell the same. */
    private static void dueOnLines() {
        for (int corner = 0; corner < 9; corner++) {
            TouchBench b = new TouchBench();
            b.grid(corner, 40, -40);
            for (int place = 0; place < 9; place++) {
                int x = place % 3 * 300 - 300;
                int y = place / 3 * 300 - 300;
                due("corner " + corner + " at " + x + ", " + y, b.off(x, y, false), place == corner ? 40 : 0);
                due("corner " + corner + " at " + x + ", " + y, b.off(x, y, true), place == corner ? -40 : 0);
            }
            for (int along = -225; along <= 225; along += 150) {
                for (int line = -300; line <= 300; line += 300) {
                    due("along x " + line, b.off(line, along, false), onLine(corner % 3, corner / 3, line, along));
                    due("along y " + line, b.off(along, line, false), onLine(corner / 3, corner % 3, line, along));
                }
            }
        }
    }

    private static long onLine(int across, int up, int line, int along) {
        int far = Math.abs(along - (300 * up - 300));
        return 300 * across - 300 != line || far > 300 ? 0 : 40 * (300 - far) / 300;
    }

    private static void dueWeight(int corner, int x, int y, long want) {
        TouchBench b = new TouchBench();
        b.grid(corner, 45, -45);
        due("corner " + corner + " at " + x + ", " + y, b.off(x, y, false), want);
        due("corner " + corner + " at " + x + ", " + y + " of y", b.off(x, y, true), -want);
    }

    // ---- terms 4 to 6: the outline, boxes, sheets

    private static void outlines() {
        says("Term 4", "An OUTLINE has up to 10 CORNERS (x, y), and as many PIECES: k from corner k to the next one "
                + "(the last to the first).");
        TouchBench b = new TouchBench();
        int[] xs = {0, 100, 200, 300, 300, 300, 200, 100, 0, 0};
        int[] ys = {0, 0, 0, 0, 100, 200, 200, 200, 200, 100};
        for (int k = 0; k < 10; k++) {
            due("corner " + k, b.corner(xs[k], ys[k]), k + 1);
            int next = (k + 1) % 10;
            b.point(0, (xs[k] + xs[next]) / 2, (ys[k] + ys[next]) / 2, 0);
        }
        due("an eleventh", b.corner(50, 50), FULL);
        for (int k = 0; k < 10; k++) {
            due("on piece " + k, b.nearest(0, k), k);
            due("on piece " + k, b.far(0, k, false), 0);
        }
        TouchBench two = bench(5, 3, 0);
        two.corner(0, 0);
        two.corner(10, 0);
        due("two corners, there and back: the first", two.nearest(0, 0), 0);

        says("Term 4", "The square of how far a point is from a PIECE is a FRACTION.");
        TouchBench aside = bench(0, 5, 0, -1, -2, 0, 4, 8, 0, 3, 2, 0, 1, 2, 0);
        aside.corner(0, 0);
        aside.corner(2, 4);
        // By (2, 4), 20 long when squared: the CROSS of (0, 5) is 10, that of (3, 2) is -8.
        dueFar("beside the piece", aside, 0, 5, 1);
        dueFar("ahead of it", aside, 1, 5, 1);
        dueFar("behind it", aside, 2, 20, 1);
        dueFar("on the other side", aside, 3, 16, 5);
        dueFar("on it", aside, 4, 0, 1);
    }

    private static void dueFar(String what, TouchBench b, int i, long above, long below) {
        due(what + ", above", b.far(0, i, false), above);
        due(what + ", below", b.far(0, i, true), below);
    }

    private static void boxTerms() {
        says("Term 5", "BOXES, up to 6, each from a least corner to a greatest one.");
        TouchBench b = new TouchBench();
        for (int n = 0; n < 6; n++) {
            due("box " + n, b.box(100 * n - 300, 10 * n, -n, 50, 4, 2), n);
            b.point(0, 100 * n - 299, 10 * n + 1, 1 - n);
            b.point(1, 100 * n - 251, 10 * n + 3, 1 - n);
            b.point(2, 100 * n - 275, 10 * n + 5, 1 - n);
        }
        due("a seventh", b.box(0, 0, 0, 1, 1, 1), FULL);
        for (int n = 0; n < 6; n++) {
            due("by the least corner of " + n, b.move(0, n, n), n);
            due("by the greatest corner of " + n, b.move(1, n, n), n);
            due("outside of " + n, b.move(2, n, n), -1);
        }

        says("Term 5", "A MOVE from a place to another one goes INTO a box when some place of the straight line between "
                + "them (both ends, too) is inside of it (not on its faces).");
        dueMove("through", 0, -5, 5, 5, 15, 5, 5);
        dueMove("through by y", 0, 5, 15, 5, 5, -5, 5);
        dueMove("through by z", 0, 5, 5, -5, 5, 5, 15);
        dueMove("aslant", 0, -1, -1, -1, 11, 11, 11);
        dueMove("through a little of it", 0, -1, 2, 5, 2, -1, 5);
        dueMove("only the end is in", 0, -5, 5, 5, 1, 5, 5);
        dueMove("only the beginning is in", 0, 9, 9, 9, 20, 20, 20);
        dueMove("all of it is in", 0, 1, 1, 1, 9, 9, 9);
        dueMove("one place in it", 0, 5, 5, 5, 5, 5, 5);
        dueMove("from face to face", 0, 0, 5, 5, 10, 5, 5);
        dueMove("from edge to edge", 0, 0, 0, 5, 10, 10, 5);
        dueMove("from tip to tip", 0, 0, 0, 0, 10, 10, 10);
        dueMove("up to a face", -1, -5, 5, 5, 0, 5, 5);
        dueMove("away from a face", -1, 10, 5, 5, 15, 5, 5);
        dueMove("along a least face", -1, 0, 1, 5, 0, 9, 5);
        dueMove("along a greatest face", -1, 10, 1, 5, 10, 9, 5);
        dueMove("along a face of y", -1, 1, 0, 5, 9, 0, 5);
        dueMove("along the other face of y", -1, 1, 10, 5, 9, 10, 5);
        dueMove("along a face of z", -1, 1, 5, 0, 9, 5, 0);
        dueMove("along the other face of z", -1, 1, 5, 10, 9, 5, 10);
        dueMove("along an edge", -1, 0, 0, -5, 0, 0, 15);
        dueMove("by an edge", -1, -1, 1, 5, 1, -1, 5);
        dueMove("by a tip", -1, -1, -1, 1, 1, 1, -1);
        dueMove("a place on a face", -1, 0, 5, 5, 0, 5, 5);
        dueMove("a place on another face", -1, 5, 5, 10, 5, 5, 10);
        dueMove("a place outside", -1, 11, 5, 5, 11, 5, 5);
        dueMove("it stops ahead", -1, -20, 5, 5, -1, 5, 5);
        dueMove("it begins behind", -1, 11, 5, 5, 30, 5, 5);
        dueMove("it stops ahead, aslant", -1, -9, -9, -9, -1, -1, -1);
        dueMove("it goes by", -1, -1, 8, 5, 3, 20, 5);
        dueMoveAt("as far as the bounds go", 0, 0, 0, 0, -300, -300, -300, 300, 300, 300);
        dueMoveAt("as far as the bounds go, beside", -1, 0, 0, 0, -300, -300, -300, 300, 300, 270);
    }

    /** Of a box from 0, 0, 0 to 10, 10, 10, and of one elsewhere by ends as far from it. */
    private static void dueMove(String what, long want, int... ends) {
        dueMoveAt(what, want, 0, 0, 0, ends);
        int[] elsewhere = ends.clone();
        for (int i = 0; i < ends.length; i += 3) {
            elsewhere[i] += 100;
            elsewhere[i + 1] -= 250;
            elsewhere[i + 2] -= 4;
        }
        dueMoveAt(what + ", elsewhere", want, 100, -250, -4, elsewhere);
    }

    /** There and back. */
    private static void dueMoveAt(String what, long want, int a, int b, int c, int... ends) {
        TouchBench bench = bench(ends);
        bench.box(a, b, c, 10, 10, 10);
        due(what, bench.move(0, 0, 1), want);
        due(what + ", back", bench.move(0, 1, 0), want);
    }

    private static void sheetTerms() {
        says("Term 6", "SHEETS 0 to 3 are rows of up to 48 numbers: shorts (1), ints (2), doubles (3), or MISSING "
                + "(all, at first).");
        for (int s = 0; s < 4; s++) {
            TouchBench b = new TouchBench();
            for (int kind = 1; kind <= 3; kind++) {
                due("MISSING at first", b.lay(0, s), MISSING);
                due("48 numbers", b.sheet(s, kind, 48), 48);
                due("the last number", b.put(s, 47, 32768), 0);
                due("no further one", b.put(s, 48, 1), BEYOND);
                due("bits", b.bits(s, 46, 0), kind == 3 ? 0 : KIND);
                due("not 49 numbers", b.sheet(s, kind, 49), BEYOND);
                due("the others are MISSING", b.lay(0, (s + 1) % 4), MISSING);
                due("MISSING again", b.sheet(s, 0, 0), 0);
            }
        }
    }

    // ---- promises 1 to 10: points

    private static void newObject() {
        says("1", "Parts without points, no figures, a grid of nothing, no outline, no boxes, sheets MISSING.");
        TouchBench used = filled();
        TouchBench b = new TouchBench();
        for (int i = 0; i < 4; i++) {
            due("part " + i, b.points(i, false), 0);
            due("part " + i + " has no first point", b.at(i, 0, 0), BEYOND);
            due("sheet " + i, b.put(i, 0, 0), MISSING);
        }
        for (int f = 0; f < 6; f++) {
            due("figure " + f, b.as(f, 0), NONE);
        }
        for (int corner = 0; corner < 9; corner++) {
            due("grid, x", b.off(corner % 3 * 300 - 300, corner / 3 * 300 - 300, false), 0);
            due("grid, y", b.off(corner % 3 * 300 - 300, corner / 3 * 300 - 300, true), 0);
        }
        due("no frame", b.axis(0, 0), NONE);
        due("no figures", b.told(0), 0);
        due("no outline", b.told(1), 0);
        due("no boxes", b.told(2), 0);
        due("findings of its own alone", b.told(3), 4 + 4 + 6 + 1);
        due("another object stays", used.told(1), 10);
        due("no findings", new TouchBench().told(3), 0);
    }

    private static void point() {
        says("2", "A point comes behind a part's: how many it has.");
        TouchBench b = bench(1, 2, 3);
        b.miss(0);
        due("behind a MISSED one", b.point(0, -4, 5, -6), 3);
        duePoint("the new one", b, 0, 2, -4, 5, -6);
        duePoint("the first one", b, 0, 0, 1, 2, 3);
        due("no other part", b.points(1, false), 0);

        says("2", "BEYOND: no such part, or a number is not -300 to 300.");
        dueBounds("part", TouchBench::new, (n, v) -> n.point(v, 0, 0, 0), 0, 3);
        dueBounds("x", TouchBench::new, (n, v) -> n.point(0, v, 0, 0), -300, 300);
        dueBounds("y", TouchBench::new, (n, v) -> n.point(0, 0, v, 0), -300, 300);
        dueBounds("z", TouchBench::new, (n, v) -> n.point(0, 0, 0, v), -300, 300);

        says("2", "FULL: it has 16.");
        TouchBench full = new TouchBench();
        for (int i = 1; i <= 16; i++) {
            due("point " + i, full.point(3, i, i, i), i);
        }
        due("a seventeenth", full.point(3, 0, 0, 0), FULL);
        due("again", full.point(3, 0, 0, 0), FULL);
        due("sixteen", full.points(3, false), 16);
        due("another part has room", full.point(2, 0, 0, 0), 1);
        full.clear(3);
        due("cleared", full.point(3, 0, 0, 0), 1);
    }

    private static void miss() {
        says("3", "A MISSED point comes.");
        TouchBench b = bench(1, 2, 3);
        due("how many it has", b.miss(0), 2);
        due("x is not told", b.at(0, 1, 0), MISSED);
        due("z is not told", b.at(0, 1, 2), MISSED);
        due("not touched", b.points(0, true), 1);
        due("to an empty part", b.miss(3), 1);
        b.clear(0);
        b.miss(0);
        due("where a touched one was", b.at(0, 0, 0), MISSED);
        b.clear(0);
        b.point(0, 4, 4, 4);
        due("a touched one where it was", b.at(0, 0, 0), 4);

        says("3", "BEYOND.");
        dueBounds("part", TouchBench::new, (n, v) -> n.miss(v), 0, 3);

        says("3", "FULL.");
        TouchBench full = new TouchBench();
        for (int i = 1; i <= 16; i++) {
            due("point " + i, i % 2 == 0 ? full.miss(0) : full.point(0, 1, 1, 1), i);
        }
        due("a seventeenth", full.miss(0), FULL);
        due("sixteen", full.points(0, false), 16);
    }

    private static void clear() {
        says("4", "A part has no points any more: how many it had.");
        TouchBench b = stocked();
        due("sixteen", b.clear(1), 16);
        due("with a MISSED one", b.clear(0), 5);
        due("none", b.clear(2), 0);
        due("MISSED ones alone", b.clear(3), 1);
        due("again", b.clear(1), 0);
        due("no points", b.points(1, false), 0);
        due("no first point", b.at(1, 0, 0), BEYOND);
        TouchBench others = stocked();
        others.clear(1);
        due("others stay", others.points(0, false), 5);
        due("others stay", others.points(3, false), 1);

        says("4", "BEYOND.");
        dueBounds("part", EdgeTests::stocked, (n, v) -> n.clear(v), 0, 3);
    }

    private static void at() {
        says("5", "Of a point: 0 x, 1 y, 2 z.");
        duePoint("of the least", bench(-300, -299, -298), 0, 0, -300, -299, -298);
        duePoint("of the sixteenth", stocked(), 1, 15, 35, 125, 45);

        says("5", "BEYOND: no such part, point, or what.");
        dueBounds("part", () -> {
            TouchBench b = bench(1, 1, 1);
            b.point(3, 1, 1, 1);
            return b;
        }, (n, v) -> n.at(v, 0, 0), 0, 3);
        dueBounds("point", () -> bench(1, 1, 1, 2, 2, 2), (n, v) -> n.at(0, v, 0), 0, 1);
        dueBounds("point of sixteen", EdgeTests::stocked, (n, v) -> n.at(1, v, 0), 0, 15);
        dueBounds("what", EdgeTests::stocked, (n, v) -> n.at(0, 0, v), 0, 2);
        due("the first of an empty part", stocked().at(2, 0, 0), BEYOND);

        says("5", "MISSED.");
        for (int what = 0; what < 3; what++) {
            due("what " + what, stocked().at(3, 0, what), MISSED);
        }
    }

    private static void points() {
        says("6", "How many points a part has (touched: that are not MISSED).");
        due("all", stocked().points(0, false), 5);
        due("touched", stocked().points(0, true), 4);
        due("sixteen", stocked().points(1, false), 16);
        due("sixteen touched", stocked().points(1, true), 16);
        due("empty", stocked().points(2, false), 0);
        due("empty, touched", stocked().points(2, true), 0);
        due("MISSED ones alone", stocked().points(3, false), 1);
        due("MISSED ones alone, touched", stocked().points(3, true), 0);

        says("6", "BEYOND.");
        dueBounds("part", EdgeTests::stocked, (n, v) -> n.points(v, false), 0, 3);
        dueBounds("part, touched", EdgeTests::stocked, (n, v) -> n.points(v, true), 0, 3);
    }

    private static void mend() {
        says("7", "All points of a part are MENDED: how many changed.");
        TouchBench b = new TouchBench();
        for (int i = 0; i < 16; i++) {
            b.point(0, 0, 0, i);
            b.point(1, 0, 0, i);
        }
        due("a grid of nothing", b.mend(0), 0);
        b.grid(4, 0, -1);
        due("sixteen, by y alone", b.mend(0), 16);
        duePoint("the first", b, 0, 0, 0, 1, 0);
        duePoint("the last", b, 0, 15, 0, 1, 15);
        duePoint("another part stays", b, 1, 0, 0, 0, 0);
        b.grid(4, 1, 0);
        due("sixteen, by x alone", b.mend(1), 16);
        duePoint("by x alone", b, 1, 15, -1, 0, 15);
        due("an empty part", b.mend(2), 0);
        TouchBench some = bench(0, 0, 0, 300, 300, 0, 0, 0, 9);
        some.miss(0);
        some.grid(4, 3, 4);
        due("those that change", some.mend(0), 2);
        due("a MISSED one stays so", some.at(0, 3, 0), MISSED);
        due("again, from the new place", some.mend(0), 2);
        // At (-3, -4): 3 by 297 by 296 is 2.93, 4 by the same 3.91.
        duePoint("again, from the new place", some, 0, 2, -5, -7, 9);
        TouchBench back = bench(-300, 0, 0);
        back.grid(3, 50, 0);
        due("cut back to where it was", back.mend(0), 0);

        says("7", "BEYOND.");
        dueBounds("part", EdgeTests::stocked, (n, v) -> n.mend(v), 0, 3);
    }

    private static void grid() {
        says("8", "The GRID at a corner (0 to 8: 3 for each step in y, 1 for each in x, from the least on) tells so much "
                + "for x, y: 1.");
        TouchBench b = new TouchBench();
        for (int corner = 0; corner < 9; corner++) {
            due("corner " + corner, b.grid(corner, 10 + corner, -20 - corner), 1);
        }
        long[] seen = {b.off(-300, -300, false), b.off(0, -300, false), b.off(300, -300, false), b.off(-300, 0, false),
            b.off(0, 0, false), b.off(300, 0, false), b.off(-300, 300, false), b.off(0, 300, false),
            b.off(300, 300, false)};
        for (int corner = 0; corner < 9; corner++) {
            due("x of corner " + corner, seen[corner], 10 + corner);
        }
        due("y of corner 2", b.off(300, -300, true), -22);
        due("y of corner 6", b.off(-300, 300, true), -26);
        due("anew", b.grid(6, 0, 1), 1);
        due("anew, x", b.off(-300, 300, false), 0);
        due("anew, y", b.off(-300, 300, true), 1);

        says("8", "BEYOND.");
        dueBounds("corner", TouchBench::new, (n, v) -> n.grid(v, 1, 1), 0, 8);
        dueBounds("x", TouchBench::new, (n, v) -> n.grid(0, v, 1), -50, 50);
        dueBounds("y", TouchBench::new, (n, v) -> n.grid(8, 1, v), -50, 50);
    }

    private static void off() {
        says("9", "By how much a place is MENDED in x (y): what goes from it, before it is cut to the bounds.");
        TouchBench b = new TouchBench();
        b.grid(0, 50, -50);
        b.grid(8, -50, 50);
        due("at -300, x", b.off(-300, -300, false), 50);
        due("at -300, y", b.off(-300, -300, true), -50);
        due("at 300, x", b.off(300, 300, false), -50);
        due("at 300, y", b.off(300, 300, true), 50);
        due("at 0", b.off(0, 0, false), 0);

        says("9", "BEYOND: x, y are not -300 to 300.");
        dueBounds("x", TouchBench::new, (n, v) -> n.off(v, 0, false), -300, 300);
        dueBounds("y", TouchBench::new, (n, v) -> n.off(0, v, false), -300, 300);
        dueBounds("x, of y", TouchBench::new, (n, v) -> n.off(v, 300, true), -300, 300);
        dueBounds("y, of y", TouchBench::new, (n, v) -> n.off(-300, v, true), -300, 300);
    }

    private static void apart() {
        says("10", "Of points with like numbers in two parts, neither MISSED: what 0: the greatest square of how far they "
                + "are apart; 1: the first number at which it is so.");
        TouchBench b = bench(0, 0, 0, 0, 0, 0, 0, 0, 0);
        b.miss(0);
        addPoints(b, 0, 9, 9, 9, 50, 50, 50);
        b.point(1, 1, 2, 2);
        b.miss(1);
        addPoints(b, 1, 0, -3, 0, 300, 300, 300, 9, 9, 9);
        // 9 at number 0 and at number 2; numbers 1 and 3 are MISSED in one part; number 5 is in one part alone.
        due("the greatest", b.apart(0, 1, 0), 9);
        due("the first of two", b.apart(0, 1, 1), 0);
        due("the greatest, turned", b.apart(1, 0, 0), 9);
        due("the first of two, turned", b.apart(1, 0, 1), 0);
        addPoints(b, 1, 51, 53, 47);
        due("a later one is greater", b.apart(0, 1, 0), 19);
        due("its number", b.apart(0, 1, 1), 5);
        due("a part and itself", b.apart(0, 0, 0), 0);
        due("the first that is not MISSED", stockedApart().apart(0, 1, 1), 1);
        due("at one place is 0", stockedApart().apart(0, 1, 0), 0);
        TouchBench far = bench(-300, -300, -300);
        far.point(3, 300, 300, 300);
        due("the farthest", far.apart(3, 0, 0), 1080000);
        TouchBench unlike = bench(7, -5, 3);
        unlike.point(1, 2, 20, -40);
        // 5, 25 and 43 apart.
        due("by x, y and z", unlike.apart(0, 1, 0), 25 + 625 + 1849);

        says("10", "BEYOND: no such part (either), or what.");
        dueBounds("part", EdgeTests::stocked, (n, v) -> n.apart(v, 0, 0), 0, 3);
        dueBounds("other", EdgeTests::stocked, (n, v) -> n.apart(0, v, 0), 0, 3);
        dueBounds("what", EdgeTests::stocked, (n, v) -> n.apart(0, 1, v), 0, 1);

        says("10", "NONE: there are no such points.");
        due("empty", stocked().apart(1, 2, 0), NONE);
        due("the other empty", stocked().apart(2, 1, 1), NONE);
        due("both empty", new TouchBench().apart(0, 1, 0), NONE);
        due("MISSED", stocked().apart(0, 3, 0), NONE);
        due("the other MISSED", stocked().apart(3, 0, 1), NONE);
        TouchBench turns = bench(1, 1, 1);
        turns.miss(0);
        turns.miss(1);
        turns.point(1, 1, 1, 1);
        due("one MISSED at each number", turns.apart(0, 1, 0), NONE);
    }

    private static TouchBench stockedApart() {
        TouchBench b = new TouchBench();
        b.miss(0);
        b.point(0, 4, 4, 4);
        addPoints(b, 1, 0, 0, 0, 4, 4, 4);
        return b;
    }

    // ---- promises 11 to 15: sheets

    private static void sheet() {
        says("11", "A sheet has n numbers, all 0, of a kind 1 to 3; kind 0: it is MISSING: 0 (n is looked at, too).");
        for (int kind = 1; kind <= 3; kind++) {
            TouchBench b = new TouchBench();
            due("48", b.sheet(0, kind, 48), 48);
            for (int i = 0; i < 48; i++) {
                b.put(0, i, 7);
            }
            due("3", b.sheet(0, kind, 3), 3);
            due("no fourth", b.put(0, 3, 1), BEYOND);
            due("all 0", b.lay(0, 0), 1);
            duePoint("all 0", b, 0, 0, 0, 0, 0);
            due("48 again", b.sheet(0, kind, 48), 48);
            due("all 0 again", b.lay(1, 0), 16);
            duePoint("all 0 again", b, 1, 15, 0, 0, 0);
            due("none", b.sheet(0, kind, 0), 0);
            due("no first", b.put(0, 0, 1), BEYOND);
            due("it is not MISSING", b.lay(2, 0), 0);
            due("kind 0", b.sheet(0, 0, 48), 0);
            due("it is MISSING", b.lay(2, 0), MISSING);
            due("n -1 is looked at", b.sheet(0, 0, -1), SIZE);
            due("n 49 is looked at", b.sheet(0, 0, 49), BEYOND);
            due("MISSING is not of a kind", b.bits(0, 0, 0), MISSING);
        }
        TouchBench kinds = new TouchBench();
        kinds.sheet(1, 3, 3);
        kinds.sheet(1, 2, 3);
        due("of the new kind", kinds.bits(1, 0, 0), KIND);
        kinds.sheet(1, 3, 3);
        due("of the new kind", kinds.bits(1, 0, 0), 0);

        says("11", "BEYOND: no such sheet, or kind.");
        dueBounds("sheet", TouchBench::new, (n, v) -> n.sheet(v, 1, 1), 0, 3);
        dueBounds("kind", TouchBench::new, (n, v) -> n.sheet(0, v, 1), 0, 3);

        says("11", "SIZE: n is below 0.");
        for (int kind = 0; kind <= 3; kind++) {
            due("-1", new TouchBench().sheet(0, kind, -1), SIZE);
            due("the least", new TouchBench().sheet(0, kind, LEAST), SIZE);
            due("0", new TouchBench().sheet(0, kind, 0), 0);
        }

        says("11", "BEYOND: n is above 48.");
        for (int kind = 0; kind <= 3; kind++) {
            due("49", new TouchBench().sheet(0, kind, 49), BEYOND);
            due("the most", new TouchBench().sheet(0, kind, MOST), BEYOND);
            due("48", new TouchBench().sheet(3, kind, 48), kind == 0 ? 0 : 48);
        }
    }

    private static void put() {
        says("12", "Number i of a sheet becomes v (of shorts its lowest bits): 0.");
        duePut("shorts", 1, 300, 300);
        duePut("shorts", 1, -300, -300);
        duePut("shorts, round", 1, 65536, 0);
        duePut("shorts, round", 1, 65536 + 300, 300);
        duePut("shorts, round", 1, 65535, -1);
        duePut("shorts, round", 1, 65536 - 300, -300);
        duePut("shorts, round", 1, -65536 - 7, -7);
        duePut("shorts, round", 1, LEAST, 0);
        duePut("shorts, round", 1, MOST, -1);
        duePut("shorts, not round", 1, 32768, MISSED);
        duePut("shorts, not round", 1, 32767, MISSED);
        duePut("shorts, too great", 1, 256 + 301, MISSED);
        for (int kind = 2; kind <= 3; kind++) {
            duePut("kind " + kind, kind, 300, 300);
            duePut("kind " + kind, kind, -300, -300);
            duePut("kind " + kind, kind, 301, MISSED);
            duePut("kind " + kind, kind, 65536, MISSED);
            duePut("kind " + kind, kind, LEAST, MISSED);
            duePut("kind " + kind, kind, MOST, MISSED);
        }
        TouchBench b = new TouchBench();
        b.sheet(0, 2, 3);
        b.sheet(1, 2, 3);
        b.put(0, 1, 5);
        b.lay(0, 0);
        b.lay(0, 1);
        duePoint("that number alone", b, 0, 0, 0, 5, 0);
        duePoint("that sheet alone", b, 0, 1, 0, 0, 0);

        says("12", "BEYOND: no such sheet.");
        dueBounds("sheet", () -> withSheets(2), (n, v) -> n.put(v, 0, 1), 0, 3);

        says("12", "MISSING.");
        due("at first", new TouchBench().put(0, 0, 1), MISSING);
        due("the fourth", stocked().put(3, 0, 1), MISSING);
        TouchBench gone = withSheets(2);
        gone.sheet(2, 0, 3);
        due("made so", gone.put(2, 0, 1), MISSING);

        says("12", "BEYOND: no such number.");
        dueBounds("number of 3", () -> withSheets(1), (n, v) -> n.put(0, v, 1), 0, 2);
        dueBounds("number of 48", EdgeTests::stocked, (n, v) -> n.put(2, v, 1), 0, 47);
        TouchBench none = new TouchBench();
        none.sheet(0, 1, 0);
        due("of none", none.put(0, 0, 1), BEYOND);
    }

    private static void duePut(String what, int kind, int v, long want) {
        TouchBench b = withSheets(kind);
        due(what + " " + v, b.put(0, 1, v), 0);
        b.lay(0, 0);
        due(what + " " + v + " laid", b.at(0, 0, 1), want);
    }

    private static TouchBench withSheets(int kind) {
        TouchBench b = new TouchBench();
        for (int s = 0; s < 4; s++) {
            b.sheet(s, kind, 3);
        }
        return b;
    }

    private static void bits() {
        says("13", "Number i of a sheet of doubles becomes the one whose bits v is (any that is no number is the usual "
                + "one): 0.");
        double[] whole = {0.0, 1.0, -1.0, 2.0, 3.0, -3.0, 127.0, 128.0, 255.0, 256.0, 257.0, 299.0, 300.0, -300.0};
        for (double v : whole) {
            dueBits(Double.doubleToRawLongBits(v), (long) v);
        }
        dueBits(Long.MIN_VALUE, 0);
        long[] noNumbers = {-1L, Long.MAX_VALUE, 0x7ff0000000000001L, 0xfff0000000000001L, 0x7ff8000000000000L,
            0xfff8000000000000L, 0x7ff8000000000001L};
        for (long v : noNumbers) {
            dueBits(v, MISSED);
        }
        TouchBench b = withSheets(3);
        b.bits(0, 2, Double.doubleToRawLongBits(12.0));
        b.lay(0, 0);
        duePoint("that number alone", b, 0, 0, 0, 0, 12);
        b.put(0, 2, 13);
        b.lay(0, 0);
        duePoint("put anew", b, 0, 1, 0, 0, 13);
        b.bits(1, 0, -1L);
        b.bits(1, 0, Double.doubleToRawLongBits(5.0));
        due("a number behind no number", b.lay(0, 1), 1);
        duePoint("a number behind no number", b, 0, 2, 5, 0, 0);

        says("13", "BEYOND: no such sheet.");
        dueBounds("sheet", () -> withSheets(3), (n, v) -> n.bits(v, 0, 0), 0, 3);

        says("13", "MISSING.");
        due("at first", new TouchBench().bits(0, 0, 0), MISSING);
        TouchBench gone = withSheets(3);
        gone.sheet(2, 0, 3);
        due("made so", gone.bits(2, 0, 0), MISSING);

        says("13", "KIND: it has no doubles.");
        due("shorts", withSheets(1).bits(0, 0, 0), KIND);
        due("ints", withSheets(2).bits(0, 0, 0), KIND);
        TouchBench none = new TouchBench();
        none.sheet(0, 2, 0);
        due("no ints", none.bits(0, 0, 0), KIND);

        says("13", "BEYOND: no such number.");
        dueBounds("number of 3", () -> withSheets(3), (n, v) -> n.bits(0, v, 0), 0, 2);
        dueBounds("number of 48", EdgeTests::stocked, (n, v) -> n.bits(2, v, 0), 0, 47);
        none.sheet(0, 3, 0);
        due("of none", none.bits(0, 0, 0), BEYOND);
    }

    private static void dueBits(long v, long want) {
        TouchBench b = withSheets(3);
        String what = Long.toHexString(v);
        due(what, b.bits(0, 1, v), 0);
        due(what + " laid", b.lay(0, 0), want == MISSED ? 0 : 1);
        due(what + " at", b.at(0, 0, 1), want);
    }

    private static void copy() {
        says("14", "n numbers of a sheet from one on come to another one from one on: n.");
        TouchBench b = new TouchBench();
        for (int s = 0; s < 2; s++) {
            b.sheet(s, 2, 6);
            for (int i = 0; i < 6; i++) {
                b.put(s, i, 10 * s + i + 1);
            }
        }
        due("two", b.copy(0, 4, 1, 1, 2), 2);
        b.lay(0, 1);
        duePoint("the second and third", b, 0, 0, 11, 5, 6);
        duePoint("the rest", b, 0, 1, 14, 15, 16);
        due("nothing", b.copy(0, 0, 1, 0, 0), 0);
        due("nothing behind the last", b.copy(0, 6, 1, 6, 0), 0);
        b.lay(0, 1);
        duePoint("nothing changed", b, 0, 2, 11, 5, 6);
        due("on itself, up", b.copy(0, 0, 0, 1, 5), 5);
        b.lay(0, 0);
        duePoint("up", b, 0, 4, 1, 1, 2);
        duePoint("up", b, 0, 5, 3, 4, 5);
        due("on itself, down", b.copy(0, 2, 0, 0, 4), 4);
        b.lay(0, 0);
        duePoint("down", b, 0, 6, 2, 3, 4);
        duePoint("down", b, 0, 7, 5, 4, 5);
        due("all of it", b.copy(1, 0, 0, 0, 6), 6);
        b.lay(0, 0);
        duePoint("all of it", b, 0, 8, 11, 5, 6);
        due("doubles that are no numbers", copiedNoNumber(), MISSED);

        says("14", "BEYOND: no such sheet (either).");
        dueBounds("from", () -> withSheets(1), (n, v) -> n.copy(v, 0, 0, 0, 1), 0, 3);
        dueBounds("to", () -> withSheets(1), (n, v) -> n.copy(0, 0, v, 0, 1), 0, 3);

        says("14", "MISSING: one is.");
        due("the first", stocked().copy(3, 0, 1, 0, 1), MISSING);
        due("the second", stocked().copy(1, 0, 3, 0, 1), MISSING);
        due("both", stocked().copy(3, 0, 3, 0, 0), MISSING);

        says("14", "KIND: they are not of one kind.");
        for (int s = 0; s < 3; s++) {
            for (int t = 0; t < 3; t++) {
                due("kinds " + s + " and " + t, stocked().copy(s, 0, t, 0, 1), s == t ? 1 : KIND);
            }
        }
        due("of none", stocked().copy(0, 0, 1, 0, 0), KIND);

        says("14", "BEYOND: one has not so many, or from, to or n is below 0.");
        TouchBench sizes = new TouchBench();
        sizes.sheet(0, 1, 5);
        sizes.sheet(1, 1, 8);
        due("just so many", sizes.copy(0, 0, 1, 3, 5), 5);
        due("the first has not", sizes.copy(0, 0, 1, 0, 6), BEYOND);
        due("the first has not, from 3 on", sizes.copy(0, 3, 1, 0, 3), BEYOND);
        due("the second has not", sizes.copy(1, 0, 0, 0, 6), BEYOND);
        due("the second has not, from 4 on", sizes.copy(0, 0, 1, 4, 5), BEYOND);
        due("from behind the end", sizes.copy(0, 6, 1, 0, 0), BEYOND);
        due("to behind the end", sizes.copy(0, 0, 1, 9, 0), BEYOND);
        due("from the end", sizes.copy(0, 5, 1, 8, 0), 0);
        due("from the end, one", sizes.copy(0, 5, 1, 0, 1), BEYOND);
        due("to the end, one", sizes.copy(0, 0, 1, 8, 1), BEYOND);
        due("itself", sizes.copy(0, 0, 0, 1, 5), BEYOND);
        dueBeyond("from", () -> withSheets(3), (n, v) -> n.copy(0, v, 1, 0, 1), -1, 3, LEAST, MOST);
        dueBeyond("to", () -> withSheets(3), (n, v) -> n.copy(0, 0, 1, v, 1), -1, 3, LEAST, MOST);
        dueBeyond("n", () -> withSheets(3), (n, v) -> n.copy(0, 0, 1, 0, v), -1, 4, LEAST, MOST);
        dueBeyond("n, not from 0", () -> withSheets(3), (n, v) -> n.copy(0, 1, 1, 1, v), -1, 3, LEAST, MOST);
        dueBeyond("from and n", () -> withSheets(3), (n, v) -> n.copy(0, v, 1, 0, v), -1, 2, LEAST, MOST);
        dueBeyond("to and n", () -> withSheets(3), (n, v) -> n.copy(0, 0, 1, v, v), -1, 2, LEAST, MOST);
        dueBeyond("to -1 of none", () -> withSheets(3), (n, v) -> n.copy(0, 0, 1, v, 0), -1, LEAST, MOST);
        dueBeyond("from -1 of none", () -> withSheets(3), (n, v) -> n.copy(0, v, 1, 0, 0), -1, LEAST, MOST);
    }

    private static long copiedNoNumber() {
        TouchBench b = withSheets(3);
        b.bits(0, 2, -1L);
        b.copy(0, 2, 1, 0, 1);
        b.lay(0, 1);
        return b.at(0, 0, 0);
    }

    private static void lay() {
        says("15", "Points of a sheet come behind a part's: threes of numbers from the first on (what is left over is not "
                + "looked at): how many were not MISSED.");
        TouchBench b = bench(9, 9, 9);
        b.sheet(0, 2, 8);
        int[] numbers = {1, 2, 3, 4, 5, 6, 301, 301};
        for (int i = 0; i < numbers.length; i++) {
            b.put(0, i, numbers[i]);
        }
        due("two, and two left over", b.lay(0, 0), 2);
        due("three now", b.points(0, false), 3);
        duePoint("the first stays", b, 0, 0, 9, 9, 9);
        duePoint("the second", b, 0, 1, 1, 2, 3);
        duePoint("the third", b, 0, 2, 4, 5, 6);
        due("again", b.lay(0, 0), 2);
        due("five now", b.points(0, false), 5);
        for (int n = 0; n < 3; n++) {
            b.sheet(1, 2, n);
            due("left over alone", b.lay(0, 1), 0);
            due("five still", b.points(0, false), 5);
        }

        says("15", "A point is MISSED if one of its numbers is not -300 to 300, or (of doubles) no whole one, or no "
                + "number.");
        for (int kind = 1; kind <= 3; kind++) {
            for (int number = 0; number < 3; number++) {
                dueLaid(kind, number, 300, true);
                dueLaid(kind, number, -300, true);
                dueLaid(kind, number, 301, false);
                dueLaid(kind, number, -301, false);
            }
        }
        double[] no = {0.5, -0.5, 1.5, 127.5, 255.5, 256.5, 299.5, 299.99999999999994, -299.99999999999994, 300.5,
            300.00000000000006, 301.0, -301.0, 511.0, 512.0, 513.0, 1024.0, 65536.0, 4294967296.0, -4294967296.0,
            1.0000000000000002, 0.9999999999999999, Double.MIN_VALUE, -Double.MIN_VALUE, Double.MIN_NORMAL,
            Double.MAX_VALUE, -Double.MAX_VALUE, Double.POSITIVE_INFINITY, Double.NEGATIVE_INFINITY, Double.NaN};
        for (double v : no) {
            for (int number = 0; number < 3; number++) {
                TouchBench doubles = withSheets(3);
                doubles.bits(0, number, Double.doubleToRawLongBits(v));
                due(v + " as number " + number, doubles.lay(0, 0), 0);
                due(v + " as number " + number + " is MISSED", doubles.at(0, 0, number), MISSED);
                due(v + " as number " + number + " came", doubles.points(0, false), 1);
            }
        }
        dueBits(Double.doubleToRawLongBits(-0.0), 0);

        says("15", "BEYOND: no such part, or sheet.");
        dueBounds("part", () -> withSheets(2), (n, v) -> n.lay(v, 0), 0, 3);
        dueBounds("sheet", () -> withSheets(2), (n, v) -> n.lay(0, v), 0, 3);

        says("15", "MISSING.");
        due("at first", new TouchBench().lay(0, 0), MISSING);
        TouchBench gone = withSheets(1);
        gone.sheet(1, 0, 0);
        due("made so", gone.lay(0, 1), MISSING);

        says("15", "FULL: the part would have more than 16.");
        TouchBench full = new TouchBench();
        full.sheet(0, 1, 48);
        full.sheet(1, 1, 3);
        full.sheet(2, 1, 2);
        full.sheet(3, 1, 47);
        due("sixteen at once", full.lay(0, 0), 16);
        due("one more", full.lay(0, 1), FULL);
        due("none more", full.lay(0, 2), 0);
        full.point(1, 1, 1, 1);
        due("seventeen", full.lay(1, 0), FULL);
        due("none of them came", full.points(1, false), 1);
        due("sixteen", full.lay(1, 3), 15);
        due("sixteen came", full.points(1, false), 16);
        full.put(1, 0, 301);
        due("a MISSED one takes room, too", full.lay(1, 1), FULL);
    }

    private static void dueLaid(int kind, int number, int v, boolean touched) {
        TouchBench b = withSheets(kind);
        b.put(0, number, v);
        due(v + " as number " + number + " of kind " + kind, b.lay(0, 0), touched ? 1 : 0);
        due(v + " as number " + number + " of kind " + kind, b.at(0, 0, number), touched ? v : MISSED);
    }

    // ---- promises 16 to 25: figures and asks

    private static void fit() {
        says("16", "FIGURE f becomes the FIT (2 LINE, 3 PLANE, 5 CIRCLE) of a part: how many points hold it (HELD, each "
                + "counted).");
        TouchBench b = bench(0, 0, 0, 9, 0, 0, 0, 9, 0);
        due("LINE, one point counted twice", b.fit(0, LINE, 0), 4);
        due("LINE", b.as(0, 0), LINE);
        due("PLANE, one point counted four times", b.fit(1, PLANE, 0), 6);
        due("PLANE", b.as(1, 0), PLANE);
        due("CIRCLE of a pair", b.fit(2, CIRCLE, 0), 2);
        due("CIRCLE", b.as(2, 0), CIRCLE);
        b.point(1, 5, 5, 5);
        due("CIRCLE of one", b.fit(3, CIRCLE, 1), 1);
        addPoints(b, 2, 0, 0, 0, 6, 0, 0, 3, 4, 0);
        due("CIRCLE of three", b.fit(4, CIRCLE, 2), 3);
        due("anew, of another kind", b.fit(1, CIRCLE, 0), 2);
        due("anew", b.as(1, 0), CIRCLE);
        dueHeld("anew", b, 1, 1, 2);
        b.clear(0);
        addPoints(b, 0, 1, 1, 1, 1, 1, 2);
        dueHeld("it stays as it was when its part changes", b, 2, 1, 2);
        TouchBench many = new TouchBench();
        for (int i = 0; i < 16; i++) {
            many.point(0, 20 * i - 150, i * i, 300 - 40 * (i % 15));
        }
        due("LINE of sixteen", many.fit(0, LINE, 0), 4);
        due("PLANE of sixteen", many.fit(0, PLANE, 0), 6);

        says("16", "BEYOND: no such figure, part, or kind.");
        dueBounds("figure", EdgeTests::stocked, (n, v) -> n.fit(v, LINE, 0), 0, 5);
        dueBounds("part", EdgeTests::stocked, (n, v) -> n.fit(0, LINE, v), 0, 3);
        dueBounds("kind", EdgeTests::stocked, (n, v) -> n.fit(0, v, 0), LINE, PLANE + 0);
        dueBeyond("kind", EdgeTests::stocked, (n, v) -> n.fit(0, v, 0), -1, 0, 1, 4, 6, 7);
        dueNot("CIRCLE", stocked().fit(0, CIRCLE, 0), BEYOND);

        says("16", "NONE: LINE: no two points at unlike places");
        due("no points", new TouchBench().fit(0, LINE, 0), NONE);
        due("one point", bench(1, 1, 1).fit(0, LINE, 0), NONE);
        due("one place", bench(1, 1, 1, 1, 1, 2, 1, 1, 3).fit(0, LINE, 0), NONE);
        due("one place, MISSED ones", benchWithMissed(1, 1, 1, 1, 1, 2).fit(0, LINE, 0), NONE);
        due("two places", bench(1, 1, 1, 1, 1, 1, 1, 2, 1).fit(0, LINE, 0), 4);

        says("16", "PLANE: no NORMAL but 0");
        due("no points", new TouchBench().fit(0, PLANE, 0), NONE);
        due("one point", bench(1, 1, 1).fit(0, PLANE, 0), NONE);
        due("two points", bench(1, 1, 1, 2, 5, 7).fit(0, PLANE, 0), NONE);
        due("one place", bench(1, 1, 1, 1, 1, 1, 1, 1, 1, 1, 1, 1).fit(0, PLANE, 0), NONE);
        due("one line", bench(0, 0, 0, 1, 2, 3, -2, -4, -6, 100, 200, 300).fit(0, PLANE, 0), NONE);
        due("one line, upright", bench(5, 5, 0, 5, 5, 7, 5, 5, 300).fit(0, PLANE, 0), NONE);
        due("beside a line by 1", bench(0, 0, 0, 1, 2, 3, -2, -4, -6, 100, 200, 299).fit(0, PLANE, 0), 6);
        due("three MISSED ones", benchWithMissed(0, 0, 0, 1, 2, 3).fit(0, PLANE, 0), NONE);

        says("16", "CIRCLE: no point.");
        due("no points", new TouchBench().fit(0, CIRCLE, 0), NONE);
        due("MISSED ones alone", stocked().fit(0, CIRCLE, 3), NONE);
        due("one point", bench(1, 1, 1).fit(0, CIRCLE, 0), 1);
    }

    private static void drop() {
        says("17", "FIGURE f is none: 1 if it was one, else 0.");
        for (int kind : new int[] {LINE, PLANE, CIRCLE}) {
            TouchBench b = fitted(kind, 0, 0, 0, 9, 0, 0, 0, 9, 0);
            due("never one", b.drop(5), 0);
            due("was one", b.drop(0), 1);
            due("none now", b.as(0, 0), NONE);
            due("nothing is told of it", b.missOf(0, false), NONE);
            due("again", b.drop(0), 0);
            due("no figures", b.told(0), 0);
        }
        TouchBench others = stocked();
        others.drop(0);
        due("others stay", others.as(1, 0), PLANE);

        says("17", "BEYOND.");
        dueBounds("figure", EdgeTests::stocked, (n, v) -> n.drop(v), 0, 5);
    }

    private static void as() {
        says("18", "FIGURE f as one of a kind: its own kind.");
        due("a LINE as FIGURE", stocked().as(0, 0), LINE);
        due("a LINE as FLAT", stocked().as(0, 1), LINE);
        due("a LINE as LINE", stocked().as(0, 2), LINE);
        due("a PLANE as FIGURE", stocked().as(1, 0), PLANE);
        due("a PLANE as FLAT", stocked().as(1, 1), PLANE);
        due("a PLANE as PLANE", stocked().as(1, 3), PLANE);
        due("a CIRCLE as FIGURE", stocked().as(2, 0), CIRCLE);
        due("a CIRCLE as ROUND", stocked().as(2, 4), CIRCLE);
        due("a CIRCLE as CIRCLE", stocked().as(2, 5), CIRCLE);

        says("18", "BEYOND: no such figure, or kind.");
        dueBounds("figure", EdgeTests::stocked, (n, v) -> n.as(v, 0), 0, 5);
        dueBounds("kind", EdgeTests::stocked, (n, v) -> n.as(0, v), 0, 5);

        says("18", "NONE: it is none.");
        for (int kind = 0; kind <= 5; kind++) {
            due("as " + kind, stocked().as(3, kind), NONE);
        }

        says("18", "KIND: it is not of that kind, nor of one under it.");
        due("a LINE as PLANE", stocked().as(0, 3), KIND);
        due("a LINE as ROUND", stocked().as(0, 4), KIND);
        due("a LINE as CIRCLE", stocked().as(0, 5), KIND);
        due("a PLANE as LINE", stocked().as(1, 2), KIND);
        due("a PLANE as ROUND", stocked().as(1, 4), KIND);
        due("a PLANE as CIRCLE", stocked().as(1, 5), KIND);
        due("a CIRCLE as FLAT", stocked().as(2, 1), KIND);
        due("a CIRCLE as LINE", stocked().as(2, 2), KIND);
        due("a CIRCLE as PLANE", stocked().as(2, 3), KIND);
    }

    private static void held() {
        says("19", "HELD i of a FIGURE: the point's number.");
        TouchBench b = benchWithMissed(0, 0, 0, 90, 0, 0, 0, 90, 0, 9, 9, 5, 1, 1, 1, 2, 2, 2, 3, 3, 3, 50, 50, 60);
        b.fit(0, CIRCLE, 0);
        dueHeld("a CIRCLE with the last point", b, 0, 3, 5);
        TouchBench last = bench(5, 0, 0);
        for (int i = 1; i < 15; i++) {
            last.point(0, 5, 5, i);
        }
        last.point(0, 300, 0, 0);
        last.fit(0, LINE, 0);
        // From a point at (5, 5) on the way is longer than from (5, 0), and both have a CROSS of 1475 beside them.
        dueHeld("the sixteenth point", last, 0, 1, 15, 1, 0);

        says("19", "BEYOND.");
        dueBounds("figure", EdgeTests::stocked, (n, v) -> n.held(v, 0), 0, 5);

        says("19", "NONE: it is none, or there is no such.");
        due("none", stocked().held(3, 0), NONE);
        due("dropped", dropped(0).held(0, 0), NONE);
        int[] most = {3, 5, 1};
        for (int f = 0; f < 3; f++) {
            dueNot("figure " + f + " has " + most[f], stocked().held(f, most[f]), NONE);
            due("figure " + f + " has no more", stocked().held(f, most[f] + 1), NONE);
            due("figure " + f + " none at -1", stocked().held(f, -1), NONE);
            due("figure " + f + " none at the least", stocked().held(f, LEAST), NONE);
            due("figure " + f + " none at the most", stocked().held(f, MOST), NONE);
        }
        TouchBench fewer = stocked();
        fewer.fit(1, LINE, 0);
        due("a LINE where a PLANE was", fewer.held(1, 4), NONE);
        fewer.clear(0);
        fewer.point(0, 1, 1, 1);
        fewer.fit(1, CIRCLE, 0);
        due("a CIRCLE of one where a LINE was", fewer.held(1, 1), NONE);
    }

    private static TouchBench dropped(int f) {
        TouchBench b = stocked();
        b.drop(f);
        return b;
    }

    private static void missOf() {
        says("20", "MISS of a FIGURE, squared, a FRACTION: above (below).");
        dueMiss("of a LINE", stocked(), 0, 100, 1);
        // NORMAL (-10, -10, 200), CROSS 0, -100, 0, -100: 10000 by 40200.
        dueMiss("of a PLANE", stocked(), 1, 50, 201);
        dueMiss("of a CIRCLE", stocked(), 2, 50, 1);
        dueMiss("0 of a LINE", fitted(LINE, 0, 0, 0, 7, 0, 0), 0, 0, 1);

        says("20", "BEYOND.");
        dueBounds("figure, above", EdgeTests::stocked, (n, v) -> n.missOf(v, false), 0, 5);
        dueBounds("figure, below", EdgeTests::stocked, (n, v) -> n.missOf(v, true), 0, 5);

        says("20", "NONE.");
        for (int f = 0; f < 6; f++) {
            due("figure " + f, new TouchBench().missOf(f, f % 2 == 0), NONE);
        }
        due("dropped", dropped(1).missOf(1, true), NONE);
    }

    private static void way() {
        says("21", "Of a LINE or PLANE its direction: of a LINE dx, dy, 0, of a PLANE the NORMAL, in lowest terms, the "
                + "first that is not 0 being above 0: number 0, 1, 2.");
        dueWay("a LINE", fitted(LINE, 0, 0, 5, 6, 9, -5), 0, 2, 3, 0);
        dueWay("a LINE back", fitted(LINE, 6, 9, 0, 0, 0, 0), 0, 2, 3, 0);
        dueWay("a LINE down", fitted(LINE, 0, 9, 0, 6, 0, 0), 0, 2, -3, 0);
        dueWay("a LINE down, back", fitted(LINE, 6, 0, 0, 0, 9, 0), 0, 2, -3, 0);
        dueWay("along x", fitted(LINE, 6, 2, 0, 0, 2, 0), 0, 1, 0, 0);
        dueWay("along y", fitted(LINE, 2, 6, 0, 2, 0, 0), 0, 0, 1, 0);
        dueWay("the widest", fitted(LINE, 300, 300, 0, -300, 299, 0), 0, 600, 1, 0);
        dueWay("a PLANE, x below 0", fitted(PLANE, 0, 0, 0, 0, 2, 2, 2, 2, 0), 0, 1, -1, 1);
        dueWay("a PLANE, y below 0", fitted(PLANE, 0, 0, 0, 3, 0, 0, 0, 2, 2), 0, 0, 1, -1);
        dueWay("a PLANE, z below 0", fitted(PLANE, 0, 0, 0, 0, 10, 0, 10, 0, 0), 0, 0, 0, 1);
        dueWay("a PLANE in stock", stocked(), 1, 1, 1, -20);

        says("21", "BEYOND: no such figure, or number.");
        dueBounds("figure", EdgeTests::stocked, (n, v) -> n.way(v, 0), 0, 5);
        dueBounds("number of a LINE", EdgeTests::stocked, (n, v) -> n.way(0, v), 0, 2);
        dueBounds("number of a PLANE", EdgeTests::stocked, (n, v) -> n.way(1, v), 0, 2);

        says("21", "NONE.");
        due("none", stocked().way(3, 0), NONE);
        due("dropped", dropped(0).way(0, 0), NONE);

        says("21", "KIND: it is no FLAT.");
        for (int number = 0; number < 3; number++) {
            due("a CIRCLE, number " + number, stocked().way(2, number), KIND);
        }
    }

    private static void middle() {
        says("22", "Of a CIRCLE its middle, a FRACTION: x (y) above, below.");
        dueMiddle("halves", fitted(CIRCLE, 1, 2, 0, 2, 5, 0), 0, 3, 2, 7, 2);
        dueMiddle("of one point", fitted(CIRCLE, -300, 300, 0), 0, -300, 1, 300, 1);
        dueMiddle("of three", fitted(CIRCLE, -300, -300, 0, -296, -300, 0, -298, -297, 0), 0, -298, 1, -1795, 6);

        says("22", "BEYOND.");
        for (int which = 0; which < 4; which++) {
            boolean y = which / 2 == 0;
            boolean below = which % 2 == 0;
            dueBounds("figure", EdgeTests::stocked, (n, v) -> n.middle(v, y, below), 0, 5);
        }

        says("22", "NONE.");
        due("none", stocked().middle(3, false, false), NONE);
        due("dropped", dropped(2).middle(2, true, true), NONE);

        says("22", "KIND: it is no ROUND.");
        due("a LINE", stocked().middle(0, false, false), KIND);
        due("a PLANE", stocked().middle(1, true, true), KIND);
    }

    private static void ask() {
        says("23", "Whether a FIGURE's MISS (of a CIRCLE: its diameter) is at most t: 1, 0.");
        dueAsk("a LINE of MISS 10", fitted(LINE, 0, 0, 0, 10, 0, 0, 10, 10, 0, 0, 10, 0), 10);
        dueAsk("a LINE of 289 by 50", fitted(LINE, 0, 0, 0, 3, 4, 0, 1, 7, 0), 3);
        dueAsk("a PLANE of MISS 5", fitted(PLANE, 0, 0, 0, 90, 0, 0, 0, 90, 0, 9, 9, 5), 5);
        dueAsk("a PLANE of 100 by 27", fitted(PLANE, 0, 0, 0, 10, 0, 0, 10, 10, 4, 0, 10, 0), 2);
        dueAsk("a CIRCLE 5 wide", fitted(CIRCLE, 0, 0, 0, 3, 4, 0), 5);
        dueAsk("a CIRCLE 14.1 wide", fitted(CIRCLE, 0, 0, 0, 10, 10, 0), 15);
        dueAsk("the widest LINE", fitted(LINE, -300, -300, 0, 300, -300, 0, 300, 300, 0, -300, 300, 0), 600);
        dueAsk("the widest CIRCLE", fitted(CIRCLE, -300, -300, 0, 300, 300, 0), 849);
        due("no MISS is kept by 0", fitted(LINE, 0, 0, 0, 3, 4, 0).ask(0, 0), 1);
        due("a CIRCLE of one place is kept by 0", fitted(CIRCLE, 3, 3, 0).ask(0, 0), 1);
        due("all is kept by 2000", fitted(CIRCLE, -300, -300, 0, 300, 300, 0).ask(0, 2000), 1);

        says("23", "BEYOND: no such figure, or t is not 0 to 2000.");
        dueBounds("figure", EdgeTests::stocked, (n, v) -> n.ask(v, 10), 0, 5);
        dueBounds("t", EdgeTests::stocked, (n, v) -> n.ask(0, v), 0, 2000);

        says("23", "NONE.");
        due("none", stocked().ask(3, 0), NONE);
        due("dropped", dropped(0).ask(0, 2000), NONE);
    }

    /** Kept by t, and not by less. */
    private static void dueAsk(String what, TouchBench b, int t) {
        due(what + ", " + t, b.ask(0, t), 1);
        due(what + ", 1 more", b.ask(0, t + 1), 1);
        due(what + ", 1 less", b.ask(0, t - 1), 0);
        due(what + ", 0", b.ask(0, 0), 0);
    }

    private static void level() {
        says("24", "The least whole t that ask() would keep.");
        due("no MISS", fitted(LINE, 0, 0, 0, 3, 4, 0).level(0), 0);
        due("no MISS of a PLANE", fitted(PLANE, 0, 0, 0, 3, 4, 0, 9, 9, 9).level(0), 0);
        due("one place", fitted(CIRCLE, 3, 3, 0).level(0), 0);
        due("a whole MISS", fitted(LINE, 0, 0, 0, 10, 0, 0, 5, 3, 0).level(0), 3);
        due("289 by 50", fitted(LINE, 0, 0, 0, 3, 4, 0, 1, 7, 0).level(0), 3);
        due("a whole diameter", fitted(CIRCLE, 0, 0, 0, 3, 4, 0).level(0), 5);
        due("a diameter of an odd number", fitted(CIRCLE, 0, 0, 0, 7, 0, 0).level(0), 7);
        due("a diameter of 1.4", fitted(CIRCLE, 0, 0, 0, 1, 1, 0).level(0), 2);
        due("the widest CIRCLE", fitted(CIRCLE, -300, -300, 0, 300, 300, 0).level(0), 849);
        due("less than 1", stocked().level(1), 1);
        due("the widest LINE", fitted(LINE, -300, -300, 0, 300, -300, 0, 300, 300, 0, -300, 300, 0).level(0), 600);

        says("24", "BEYOND.");
        dueBounds("figure", EdgeTests::stocked, (n, v) -> n.level(v), 0, 5);

        says("24", "NONE.");
        due("none", stocked().level(3), NONE);
        due("dropped", dropped(2).level(2), NONE);
    }

    private static void more() {
        says("25", "Whether a LINE or PLANE keeps t and what a CIRCLE's diameter is less than a told size (the difference "
                + "rounded down to a whole number; 0 when it is more): 1, 0.");
        // In stock: a LINE of MISS 10, a PLANE of MISS 0.5, a CIRCLE 14.14 wide.
        due("10 by itself", stocked().more(0, 10, 2, 0), 1);
        due("9 by itself", stocked().more(0, 9, 2, 0), 0);
        due("14 is less than the diameter", stocked().more(0, 9, 2, 14), 0);
        due("0.86 is rounded to 0", stocked().more(0, 9, 2, 15), 0);
        due("1.86 is rounded to 1", stocked().more(0, 9, 2, 16), 1);
        due("1.86 is not 2", stocked().more(0, 8, 2, 16), 0);
        due("0 and 9.86", stocked().more(0, 0, 2, 24), 0);
        due("0 and 10.86", stocked().more(0, 0, 2, 25), 1);
        due("the size alone", stocked().more(0, 0, 2, 2000), 1);
        due("t alone", stocked().more(0, 2000, 2, 0), 1);
        due("both", stocked().more(0, 2000, 2, 2000), 1);
        due("a PLANE by 0", stocked().more(1, 0, 2, 15), 0);
        due("a PLANE by 1", stocked().more(1, 1, 2, 0), 1);
        due("a PLANE by 0 and 1", stocked().more(1, 0, 2, 16), 1);
        TouchBench whole = fitted(LINE, 0, 0, 0, 10, 0, 0, 10, 10, 0, 0, 10, 0);
        addPoints(whole, 1, 0, 0, 0, 3, 4, 0);
        whole.fit(1, CIRCLE, 1);
        due("a whole difference", whole.more(0, 5, 1, 10), 1);
        due("a whole difference, 1 less", whole.more(0, 5, 1, 9), 0);
        due("as much as the diameter", whole.more(0, 9, 1, 5), 0);
        due("1 more than the diameter", whole.more(0, 9, 1, 6), 1);
        whole.clear(1);
        whole.point(1, 7, 7, 7);
        whole.fit(1, CIRCLE, 1);
        due("no diameter", whole.more(0, 0, 1, 10), 1);
        due("no diameter, 1 less", whole.more(0, 0, 1, 9), 0);

        says("25", "BEYOND: no such figure (either), or t, size not 0 to 2000.");
        dueBounds("figure", EdgeTests::stocked, (n, v) -> n.more(v, 1, 2, 1), 0, 5);
        dueBounds("circle", EdgeTests::stocked, (n, v) -> n.more(0, 1, v, 1), 0, 5);
        dueBounds("t", EdgeTests::stocked, (n, v) -> n.more(0, v, 2, 1), 0, 2000);
        dueBounds("size", EdgeTests::stocked, (n, v) -> n.more(0, 1, 2, v), 0, 2000);

        says("25", "NONE: one is none.");
        due("the first", stocked().more(3, 1, 2, 1), NONE);
        due("the second", stocked().more(0, 1, 3, 1), NONE);
        due("both", stocked().more(3, 1, 4, 1), NONE);

        says("25", "KIND: the first is no FLAT, or the second no ROUND.");
        due("CIRCLE and CIRCLE", stocked().more(2, 1, 2, 1), KIND);
        due("LINE and LINE", stocked().more(0, 1, 0, 1), KIND);
        due("LINE and PLANE", stocked().more(0, 1, 1, 1), KIND);
        due("CIRCLE and LINE", stocked().more(2, 1, 0, 1), KIND);
    }

    // ---- promises 26 to 28: frames

    private static void frame() {
        says("26", "THE FRAME is laid: its first way is the way() of a PLANE; its second a told direction less what of it "
                + "goes along the first (the direction times the first's length squared, less the first times their "
                + "product; in lowest terms, signs as they are), its third the cross product of the first and the "
                + "direction (in lowest terms, signs as they are); its beginning is a point of a part: 1.");
        // The way is (1, -1, 1). (2,0,0) times 3 less 2 times the way: (4, 2, -2); the way by (2,0,0): (0, 2, 2).
        TouchBench b = fitted(PLANE, 0, 0, 0, 0, 2, 2, 2, 2, 0);
        due("laid", b.frame(0, 2, 0, 0, 0, 1), 1);
        dueAxis("laid", b, 0, 1, -1, 1);
        dueAxis("laid", b, 1, 2, 1, -1);
        dueAxis("laid", b, 2, 0, 1, 1);
        due("its beginning", b.inFrame(0, 1, 1), 0);
        due("another point", b.inFrame(0, 0, 1), -2 + 2);
        due("another point, third", b.inFrame(0, 0, 2), -4);
        due("anew, the other way", b.frame(0, -2, 0, 0, 0, 2), 1);
        dueAxis("signs as they are", b, 0, 1, -1, 1);
        dueAxis("signs as they are", b, 1, -2, -1, 1);
        dueAxis("signs as they are", b, 2, 0, -1, -1);
        due("the new beginning", b.inFrame(0, 2, 2), 0);
        due("the bounds", b.frame(0, 100, -100, -100, 0, 0), 1);
        // (100,-100,-100) times 3 less 100 times the way: (200,-200,-400); by the way: (200, 200, 0).
        dueAxis("the bounds", b, 1, 1, -1, -2);
        dueAxis("the bounds", b, 2, 1, 1, 0);
        due("a direction upright to the first", b.frame(0, 0, 7, 7, 0, 0), 1);
        dueAxis("a direction upright to the first", b, 1, 0, 1, 1);
        dueAxis("a direction upright to the first", b, 2, -2, -1, 1);
        dueAxis("great numbers", steepFrame(), 0, 359401, 359999, 358800);
        dueAxis("great numbers", steepFrame(), 1, 25618427459999L, -51516432059401L, 26027245199000L);
        dueAxis("great numbers", steepFrame(), 2, 71879900, -418900, -71580001);

        says("26", "BEYOND: no such figure, part, point, or x, y, z not -100 to 100.");
        dueBounds("figure", EdgeTests::stocked, (n, v) -> n.frame(v, 1, 2, 3, 0, 0), 0, 5);
        dueBounds("part", EdgeTests::framing, (n, v) -> n.frame(0, 1, 2, 3, v, 0), 0, 3);
        dueBounds("point", EdgeTests::framing, (n, v) -> n.frame(0, 1, 2, 3, 0, v), 0, 3);
        dueBounds("x", EdgeTests::stocked, (n, v) -> n.frame(1, v, 2, 3, 0, 0), -100, 100);
        dueBounds("y", EdgeTests::stocked, (n, v) -> n.frame(1, 1, v, 3, 0, 0), -100, 100);
        dueBounds("z", EdgeTests::stocked, (n, v) -> n.frame(1, 1, 2, v, 0, 0), -100, 100);
        due("the first point of an empty part", stocked().frame(1, 1, 2, 3, 2, 0), BEYOND);

        says("26", "NONE: the figure is none.");
        due("none", stocked().frame(3, 1, 2, 3, 0, 0), NONE);
        due("dropped", dropped(1).frame(1, 1, 2, 3, 0, 0), NONE);

        says("26", "KIND: it is no PLANE.");
        due("a LINE", stocked().frame(0, 1, 2, 3, 0, 0), KIND);
        due("a CIRCLE", stocked().frame(2, 1, 2, 3, 0, 0), KIND);

        says("26", "MISSED: the point is.");
        due("of its own part", stocked().frame(1, 1, 2, 3, 0, 4), MISSED);
        due("of another part", stocked().frame(1, 1, 2, 3, 3, 0), MISSED);

        says("26", "SIZE: the direction goes along the first way, or is 0.");
        due("along it", stocked().frame(1, 1, 1, -20, 0, 0), SIZE);
        due("along it, far", stocked().frame(1, 5, 5, -100, 0, 0), SIZE);
        due("against it", stocked().frame(1, -5, -5, 100, 0, 0), SIZE);
        due("0", stocked().frame(1, 0, 0, 0, 0, 0), SIZE);
        due("not along it in x", stocked().frame(1, 4, 5, -100, 0, 0), 1);
        due("not along it in y", stocked().frame(1, 5, 4, -100, 0, 0), 1);
        due("not along it in z", stocked().frame(1, 5, 5, -99, 0, 0), 1);
        due("against it in z alone", stocked().frame(1, 1, 1, 20, 0, 0), 1);
        TouchBench upright = fitted(PLANE, 0, 0, 0, 5, 0, 0, 0, 5, 0);
        due("along z", upright.frame(0, 0, 0, 1, 0, 0), SIZE);
        due("not along z, x", upright.frame(0, 1, 0, 100, 0, 0), 1);
        due("not along z, y", upright.frame(0, 0, 1, 100, 0, 0), 1);
    }

    /** A PLANE, and a first point of each part. */
    private static TouchBench framing() {
        TouchBench b = fitted(PLANE, 0, 0, 0, 90, 0, 0, 0, 90, 0, 1, 1, 1);
        for (int part = 1; part < 4; part++) {
            b.point(part, part, 0, 0);
        }
        return b;
    }

    private static void axis() {
        says("27", "Number 0, 1, 2 of a way (0, 1, 2) of THE FRAME.");
        // The way (1, 1, -20), 402 long when squared; (1, 0, 0) times 402 less the way: (401, -1, 20).
        dueAxis("of the stock", stocked(), 0, 1, 1, -20);
        dueAxis("of the stock", stocked(), 1, 401, -1, 20);
        dueAxis("of the stock", stocked(), 2, 0, -20, -1);
        TouchBench left = stocked();
        left.drop(1);
        left.clear(0);
        dueAxis("its figure and part are gone", left, 1, 401, -1, 20);

        says("27", "BEYOND.");
        dueBounds("way", EdgeTests::stocked, (n, v) -> n.axis(v, 0), 0, 2);
        dueBounds("number", EdgeTests::stocked, (n, v) -> n.axis(0, v), 0, 2);
        dueBounds("number of the last way", EdgeTests::stocked, (n, v) -> n.axis(2, v), 0, 2);

        says("27", "NONE: none is laid.");
        for (int i = 0; i < 9; i++) {
            due("at first", new TouchBench().axis(i / 3, i % 3), NONE);
        }
        TouchBench refused = fitted(PLANE, 0, 0, 0, 5, 0, 0, 0, 5, 0);
        refused.frame(0, 0, 0, 0, 0, 0);
        due("behind a refused one", refused.axis(0, 0), NONE);
    }

    private static void inFrame() {
        says("28", "A point in THE FRAME: the product of a way and of what leads from its beginning to the point.");
        // From (10, 0, 0): (10, 10, 1) is (0, 10, 1) away.
        due("first", stocked().inFrame(0, 2, 0), 10 - 20);
        due("second", stocked().inFrame(0, 2, 1), -10 + 20);
        due("third", stocked().inFrame(0, 2, 2), -200 - 1);
        for (int way = 0; way < 3; way++) {
            due("the beginning by way " + way, stocked().inFrame(0, 1, way), 0);
        }
        // (0, 10, 0) is (-10, 10, 0) away; (0, 0, 0) is (-10, 0, 0) away.
        due("first, by x, too", stocked().inFrame(0, 3, 0), -10 + 10);
        due("second, by x, too", stocked().inFrame(0, 3, 1), -4010 - 10);
        due("third, by x, too", stocked().inFrame(0, 3, 2), -200);
        due("second, by x alone", stocked().inFrame(0, 0, 1), -4010);
        // The ways are (1,-1,1), (0,1,1) and (-2,-1,1).
        TouchBench turned = fitted(PLANE, 0, 0, 0, 0, 2, 2, 2, 2, 0);
        turned.frame(0, 0, 7, 7, 0, 0);
        turned.point(1, 3, 5, 11);
        due("each number in the first", turned.inFrame(1, 0, 0), 3 - 5 + 11);
        due("each number in the second", turned.inFrame(1, 0, 1), 5 + 11);
        due("each number in the third", turned.inFrame(1, 0, 2), -6 - 5 + 11);
        TouchBench left = stocked();
        left.clear(0);
        left.point(0, 10, 0, 0);
        due("the beginning stays where it was", left.inFrame(0, 0, 1), 0);
        TouchBench wide = widestFrame();
        due("the widest", wide.inFrame(0, 1, 0), 600);

        says("28", "BEYOND: no such part, point, or way.");
        dueBounds("part", () -> {
            TouchBench b = framing();
            b.frame(0, 1, 0, 0, 0, 0);
            return b;
        }, (n, v) -> n.inFrame(v, 0, 0), 0, 3);
        dueBounds("point", EdgeTests::stocked, (n, v) -> n.inFrame(1, v, 0), 0, 15);
        dueBounds("point of five", EdgeTests::stocked, (n, v) -> n.inFrame(0, v, 0), 0, 4);
        dueBounds("way", EdgeTests::stocked, (n, v) -> n.inFrame(0, 0, v), 0, 2);
        due("the first point of an empty part", stocked().inFrame(2, 0, 0), BEYOND);

        says("28", "MISSED.");
        due("a MISSED one", stocked().inFrame(0, 4, 0), MISSED);
        due("of another part", stocked().inFrame(3, 0, 2), MISSED);

        says("28", "NONE: none is laid.");
        for (int way = 0; way < 3; way++) {
            due("way " + way, bare().inFrame(0, 0, way), NONE);
        }
    }

    /** The way is (359401, 359999, 358800); it and the second way are about as great as can be. */
    private static TouchBench steepFrame() {
        TouchBench b = fitted(PLANE, 300, -300, 300, -300, 300, 299, 299, 299, -300);
        addPoints(b, 1, 300, -300, 300, -300, 300, -300);
        b.frame(0, 99, -100, 100, 1, 0);
        return b;
    }

    private static TouchBench widestFrame() {
        TouchBench b = bench(-300, -300, -300, 300, 300, 300);
        addPoints(b, 1, 0, 0, 0, 0, 5, 0, 0, 0, 5);
        b.fit(0, PLANE, 1);
        b.frame(0, 0, 1, 0, 0, 0);
        return b;
    }

    // ---- promises 29 to 37: the outline, boxes

    private static void corner() {
        says("29", "A corner comes to THE OUTLINE: how many.");
        TouchBench b = new TouchBench();
        due("the first", b.corner(0, 0), 1);
        due("the second", b.corner(300, -300), 2);
        due("the third", b.corner(-300, 300), 3);
        due("three", b.told(1), 3);

        says("29", "BEYOND: a number is not -300 to 300.");
        dueBounds("x", TouchBench::new, (n, v) -> n.corner(v, 0), -300, 300);
        dueBounds("y", TouchBench::new, (n, v) -> n.corner(0, v), -300, 300);

        says("29", "SIZE: it is that of the latest corner.");
        TouchBench twice = new TouchBench();
        due("0, 0 with none before", twice.corner(0, 0), 1);
        due("0, 0 again", twice.corner(0, 0), SIZE);
        due("other in x", twice.corner(1, 0), 2);
        due("other in y", twice.corner(1, 1), 3);
        due("that again", twice.corner(1, 1), SIZE);
        due("that of the first", twice.corner(0, 0), 4);
        due("turned", twice.corner(-1, 1), 5);
        due("turned again", twice.corner(1, -1), 6);
        twice.open();
        due("none is the latest", twice.corner(1, -1), 1);

        says("29", "FULL: there are 10.");
        TouchBench full = new TouchBench();
        for (int i = 1; i <= 10; i++) {
            due("corner " + i, full.corner(i, -i), i);
        }
        due("an eleventh", full.corner(0, 0), FULL);
        due("ten", full.told(1), 10);
        full.open();
        due("opened", full.corner(0, 0), 1);
    }

    private static void open() {
        says("30", "THE OUTLINE has no corners: how many it had.");
        TouchBench b = filled();
        due("ten", b.open(), 10);
        due("none", b.open(), 0);
        due("none is told", b.told(1), 0);
        due("none to be near to", b.nearest(0, 0), NONE);
        due("the boxes stay", b.told(2), 6);
        due("new", new TouchBench().open(), 0);
        due("three", stocked().open(), 3);
    }

    private static void nearest() {
        says("31", "The first PIECE that is nearest to a point (by x, y).");
        TouchBench b = bench(5, -1, 300, 11, 5, -300, 5, 11, 0, -1, 5, 0, 5, 5, 0, -3, -3, 0, 13, 13, 0, 5, 6, 0);
        b.corner(0, 0);
        b.corner(10, 0);
        due("two pieces there and back", b.nearest(0, 2), 0);
        b.corner(10, 10);
        b.corner(0, 10);
        for (int k = 0; k < 4; k++) {
            due("piece " + k, b.nearest(0, k), k);
        }
        due("four are as near", b.nearest(0, 4), 0);
        due("the first corner: pieces 0 and 3", b.nearest(0, 5), 0);
        due("the third corner: pieces 1 and 2", b.nearest(0, 6), 1);
        due("inside", b.nearest(0, 7), 2);
        TouchBench close = bench(9, 1, 0, 0, 0, 0);
        close.corner(-300, -300);
        close.corner(300, -299);
        close.corner(300, 300);
        close.corner(-299, 300);
        close.corner(0, 1);
        due("the last to the first", close.nearest(0, 1), 4);
        TouchBench point = bench(-4, 5, 0, 0, 0, 0);
        point.corner(0, 0);
        point.corner(10, 0);
        point.corner(10, 10);
        point.corner(0, 10);
        point.corner(0, 0);
        due("a piece without length is its place", point.nearest(0, 0), 3);
        due("of like ones the first", point.nearest(0, 1), 0);

        says("31", "BEYOND: no such part, or point.");
        dueBounds("part", EdgeTests::outlined, (n, v) -> n.nearest(v, 0), 0, 3);
        dueBounds("point", EdgeTests::stocked, (n, v) -> n.nearest(1, v), 0, 15);
        dueBounds("point of five", EdgeTests::stocked, (n, v) -> n.nearest(0, v), 0, 4);
        due("the first point of an empty part", stocked().nearest(2, 0), BEYOND);

        says("31", "MISSED.");
        due("a MISSED one", stocked().nearest(0, 4), MISSED);
        due("of another part", stocked().nearest(3, 0), MISSED);

        says("31", "NONE: THE OUTLINE has not two corners.");
        TouchBench few = bench(1, 1, 1);
        due("none", few.nearest(0, 0), NONE);
        few.corner(0, 0);
        due("one", few.nearest(0, 0), NONE);
        few.corner(0, 1);
        due("two", few.nearest(0, 0), 0);
        few.open();
        due("none again", few.nearest(0, 0), NONE);
    }

    /** An outline, and a first point of each part. */
    private static TouchBench outlined() {
        TouchBench b = new TouchBench();
        for (int part = 0; part < 4; part++) {
            b.point(part, part, 5, 0);
        }
        b.corner(0, 0);
        b.corner(9, 0);
        return b;
    }

    private static void far() {
        says("32", "The square of how far a point is from the nearest PIECE, a FRACTION: above (below).");
        TouchBench b = bench(0, 1, 300, 1, 0, -300, -3, -4, 0, 100, 210, 0, 50, 100, 0, 300, -300, 0);
        b.corner(0, 0);
        b.corner(100, 200);
        dueFar("by 1, 2", b, 0, 1, 5);
        dueFar("by 1, 2, the other side", b, 1, 4, 5);
        dueFar("ahead of it", b, 2, 25, 1);
        dueFar("behind it", b, 3, 100, 1);
        dueFar("on it", b, 4, 0, 1);
        dueFar("far away", b, 5, 180000, 1);
        TouchBench wide = bench(300, -300, 0);
        wide.corner(-300, -300);
        wide.corner(300, 300);
        dueFar("the farthest beside", wide, 0, 180000, 1);
        TouchBench two = bench(7, 3, 0);
        two.corner(0, 0);
        two.corner(10, 0);
        two.corner(10, 10);
        // Piece 2 is the diagonal: 4 squared by 2.
        dueFar("the nearest of three", two, 0, 8, 1);

        says("32", "As nearest().");
        for (int below = 0; below < 2; below++) {
            boolean b2 = below == 1;
            dueBounds("part", EdgeTests::outlined, (n, v) -> n.far(v, 0, b2), 0, 3);
            dueBounds("point", EdgeTests::stocked, (n, v) -> n.far(1, v, b2), 0, 15);
            dueBounds("point of five", EdgeTests::stocked, (n, v) -> n.far(0, v, b2), 0, 4);
            due("the first point of an empty part", stocked().far(2, 0, b2), BEYOND);
            due("MISSED", stocked().far(3, 0, b2), MISSED);
            due("MISSED", stocked().far(0, 4, b2), MISSED);
            TouchBench few = bench(1, 1, 1);
            due("no corner", few.far(0, 0, b2), NONE);
            few.corner(0, 0);
            due("one corner", few.far(0, 0, b2), NONE);
            few.corner(0, 1);
            due("two corners", few.far(0, 0, b2), 1);
        }
    }

    private static void box() {
        says("33", "A box comes, from a corner (a, b, c) with sizes (1 to 300 each): its number.");
        TouchBench b = bench(-300, -200, -100, 0, -100, 50, -299, -199, -99, -1, -101, 49);
        due("the first", b.box(-300, -200, -100, 300, 100, 150), 0);
        due("the second", b.box(299, 299, 299, 1, 1, 1), 1);
        due("its least corner is a face", b.move(0, 0, 0), -1);
        due("its greatest corner is a face", b.move(0, 1, 1), -1);
        due("1 from the least", b.move(0, 2, 2), 0);
        due("1 from the greatest", b.move(0, 3, 3), 0);

        says("33", "BEYOND: numbers, or it would go beyond 300.");
        dueBounds("a", TouchBench::new, (n, v) -> n.box(v, 0, 0, 1, 1, 1), -300, 299);
        dueBounds("b", TouchBench::new, (n, v) -> n.box(0, v, 0, 1, 1, 1), -300, 299);
        dueBounds("c", TouchBench::new, (n, v) -> n.box(0, 0, v, 1, 1, 1), -300, 299);
        dueBounds("dx", TouchBench::new, (n, v) -> n.box(-300, 0, 0, v, 1, 1), 1, 300);
        dueBounds("dy", TouchBench::new, (n, v) -> n.box(0, -300, 0, 1, v, 1), 1, 300);
        dueBounds("dz", TouchBench::new, (n, v) -> n.box(0, 0, -300, 1, 1, v), 1, 300);
        dueBounds("a up to 300", TouchBench::new, (n, v) -> n.box(v, 0, 0, 100, 1, 1), -300, 200);
        dueBounds("b up to 300", TouchBench::new, (n, v) -> n.box(0, v, 0, 1, 100, 1), -300, 200);
        dueBounds("c up to 300", TouchBench::new, (n, v) -> n.box(0, 0, v, 1, 1, 100), -300, 200);
        dueBounds("dx up to 300", TouchBench::new, (n, v) -> n.box(250, 0, 0, v, 1, 1), 1, 50);
        dueBounds("dy up to 300", TouchBench::new, (n, v) -> n.box(0, 250, 0, 1, v, 1), 1, 50);
        dueBounds("dz up to 300", TouchBench::new, (n, v) -> n.box(0, 0, 250, 1, 1, v), 1, 50);
        due("as great as can be", new TouchBench().box(0, 0, 0, 300, 300, 300), 0);
        due("the most and the most", new TouchBench().box(MOST, 0, 0, MOST, 1, 1), BEYOND);
        due("the least and the most", new TouchBench().box(LEAST, 0, 0, MOST, 1, 1), BEYOND);

        says("33", "FULL: there are 6.");
        TouchBench full = new TouchBench();
        for (int i = 0; i < 6; i++) {
            due("box " + i, full.box(i, i, i, 1, 1, 1), i);
        }
        due("a seventh", full.box(0, 0, 0, 1, 1, 1), FULL);
        due("six", full.told(2), 6);
        full.unbox();
        due("unboxed", full.box(0, 0, 0, 1, 1, 1), 0);
    }

    private static void unbox() {
        says("34", "All boxes go: how many there were.");
        TouchBench b = filled();
        due("six", b.unbox(), 6);
        due("none", b.unbox(), 0);
        due("none is told", b.told(2), 0);
        due("the corners stay", b.told(1), 10);
        due("new", new TouchBench().unbox(), 0);
        TouchBench inside = bench(5, 5, 5);
        inside.box(0, 0, 0, 10, 10, 10);
        due("into it", inside.move(0, 0, 0), 0);
        inside.unbox();
        due("into none", inside.move(0, 0, 0), -1);
        inside.box(100, 100, 100, 1, 1, 1);
        due("into none of the new ones", inside.move(0, 0, 0), -1);
    }

    private static void move() {
        says("35", "The first box into which the MOVE from a point of a part to another point of it goes; -1 if none (no "
                + "finding).");
        TouchBench b = bench(5, 5, 5, 25, 5, 5, 45, 5, 5, 5, 30, 5);
        due("no boxes", b.move(0, 0, 1), -1);
        b.box(40, 0, 0, 10, 10, 10);
        b.box(20, 0, 0, 10, 10, 10);
        b.box(0, 0, 0, 10, 10, 10);
        b.box(0, 0, 0, 300, 10, 10);
        due("the first by number, not along the way", b.move(0, 0, 2), 0);
        due("the second", b.move(0, 0, 1), 1);
        due("the third", b.move(0, 0, 3), 2);
        due("back", b.move(0, 3, 0), 2);
        due("where it is", b.move(0, 0, 0), 2);
        due("none", b.move(0, 3, 3), -1);
        due("no finding", b.told(3), 0);

        says("35", "BEYOND: no such part, or point (either).");
        dueBounds("part", EdgeTests::outlined, (n, v) -> n.move(v, 0, 0), 0, 3);
        dueBounds("from", EdgeTests::stocked, (n, v) -> n.move(1, v, 0), 0, 15);
        dueBounds("to", EdgeTests::stocked, (n, v) -> n.move(1, 0, v), 0, 15);
        dueBounds("from, of five", EdgeTests::stocked, (n, v) -> n.move(0, v, 0), 0, 4);
        dueBounds("to, of five", EdgeTests::stocked, (n, v) -> n.move(0, 0, v), 0, 4);
        due("an empty part", stocked().move(2, 0, 0), BEYOND);

        says("35", "MISSED: one is.");
        due("from", stocked().move(0, 4, 0), MISSED);
        due("to", stocked().move(0, 0, 4), MISSED);
        due("both", stocked().move(3, 0, 0), MISSED);
        TouchBench none = bare();
        due("without boxes, too", none.move(0, 0, 1), MISSED);
    }

    private static void path() {
        says("36", "The first number i for which the MOVE from point i of a part to the next one that is not MISSED goes "
                + "into a box; -1 if none does (no finding).");
        TouchBench b = new TouchBench();
        b.box(0, 0, 0, 10, 10, 10);
        due("an empty part", b.path(0), -1);
        b.miss(0);
        due("a MISSED one alone", b.path(0), -1);
        b.point(0, 5, 5, 5);
        due("one point, inside", b.path(0), -1);
        b.miss(0);
        due("no next one", b.path(0), -1);
        b.point(0, 15, 5, 5);
        due("the next that is not MISSED", b.path(0), 1);
        TouchBench later = bench(-5, 5, 5, -9, 5, 5, 15, 5, 5, -5, 5, 5);
        later.box(0, 0, 0, 10, 10, 10);
        due("the first of two", later.path(0), 1);
        TouchBench over = bench(-5, 20, 5);
        over.miss(0);
        over.miss(0);
        over.point(0, 20, -5, 5);
        over.box(0, 0, 0, 10, 10, 10);
        due("over MISSED ones", over.path(0), 0);
        due("no finding", over.told(3), 0);
        TouchBench round = bench(-5, 5, 5, -5, 15, 5, 15, 15, 5, 15, 5, 5);
        round.box(0, 0, 0, 10, 10, 10);
        due("round it, and not from the last to the first", round.path(0), -1);
        due("no finding", round.told(3), 0);
        TouchBench sixteen = new TouchBench();
        for (int i = 0; i < 15; i++) {
            sixteen.point(2, -5, i, 5);
        }
        sixteen.point(2, 5, 5, 5);
        due("no boxes", sixteen.path(2), -1);
        sixteen.box(100, 100, 100, 9, 9, 9);
        sixteen.box(0, 0, 0, 10, 10, 10);
        due("to the sixteenth, into the second box", sixteen.path(2), 14);

        says("36", "BEYOND.");
        dueBounds("part", EdgeTests::stocked, (n, v) -> n.path(v), 0, 3);
    }

    private static void told() {
        says("37", "0 figures that are, 1 corners of THE OUTLINE, 2 boxes, 3 how many acts answered a finding ever (this "
                + "one, too, if it does).");
        due("figures of the stock", stocked().told(0), 3);
        due("corners of the stock", stocked().told(1), 3);
        due("boxes of the stock", stocked().told(2), 2);
        due("findings of the stock", stocked().told(3), 0);
        TouchBench b = new TouchBench();
        for (int i = 0; i < 4; i++) {
            due("nothing at first, " + i, b.told(i), 0);
        }
        b.point(0, 0, 0, 0);
        for (int f = 0; f < 6; f++) {
            b.fit(f, CIRCLE, 0);
            due("figures", b.told(0), f + 1);
        }
        b.fit(0, CIRCLE, 0);
        due("six still", b.told(0), 6);
        b.drop(2);
        due("five", b.told(0), 5);
        TouchBench counted = new TouchBench();
        due("BEYOND of its own", counted.told(4), BEYOND);
        due("is counted", counted.told(3), 1);
        due("telling it is not counted", counted.told(3), 1);
        counted.clear(-1);
        counted.at(0, 0, 0);
        counted.level(0);
        counted.lay(0, 0);
        due("each is counted", counted.told(3), 5);
        counted.open();
        counted.unbox();
        counted.path(0);
        counted.drop(0);
        due("0 and -1 are no findings", counted.told(3), 5);

        says("37", "BEYOND: another what.");
        dueBounds("what", TouchBench::new, (n, v) -> n.told(v), 0, 3);
    }

    // ---- which words of the document no test bears

    private static void tellUnquoted(String document) {
        String left = plain(document.substring(Math.max(0, document.indexOf("## Terms"))));
        List<String> longestFirst = new ArrayList<>(quoted);
        longestFirst.sort((one, other) -> other.length() - one.length());
        for (String words : longestFirst) {
            if (!plain(document).contains(plain(words))) {
                System.out.println("not in the document: " + words);
            }
            left = left.replace(plain(words), "<>");
        }
        System.out.println(left);
    }

    private static String plain(String text) {
        return text.replaceAll("\\s+", " ");
    }
}
