/** The edges of a run, sentence by sentence: values, functions, classes, shapes, frames, instructions, failures, caches. */
public final class EdgeRunTest {
    private static final String TWO_TO_31 = "i2147483647 i1 + ";
    private static final String HALF = TWO_TO_31 + "u u + / ";
    /** Puts 0.5 into local 1. */
    private static final String HALF_IN_1 = HALF + "s1 ";
    private static final String ENDLESS = TWO_TO_31 + "u * u * u * u * u * u * ";
    private static final String UNDEFINED = ENDLESS + "u - ";
    private static final String MINUS_ZERO = "i0 i-1 " + HALF + "* * ";
    /** The least float above 0: 2 to the -1074. */
    private static final String LEAST = TWO_TO_31 + "s1 i1 l1 u * u * u * u * u * / l1 / l1 / i1048576 / ";
    private static final String GREATEST = TWO_TO_31 + "s1 l1 i4194304 * i1 - l1 u * u * u * u * u * i2097152 / * ";
    private static final String EIGHT = Bench.times(8, "i1");
    private static final String SEVEN = Bench.times(7, "i1");

    public static void main(String[] args) {
        integersHaveARange();
        valuesThatAreNull();
        functionsFromZeroToSeven();
        indicesFromZeroToThirtyNine();
        namesFromZeroToFive();
        parentsOfParents();
        shapesUpToSixty();
        shapesThatAreThere();
        localsFromZeroToFive();
        stacksOfEight();
        framesUpToTwelve();
        objectsUpToSixty();
        instructionsUpToAThousand();
        aThousandWithFailures();
        sumsAtTheEdge();
        differencesAtTheEdge();
        productsAtTheEdge();
        quotientsAtTheEdge();
        restsAtTheEdge();
        floatsAtTheEdge();
        answersOfAllKinds();
        roundingAtTheEdge();
        lessAtTheEdge();
        equalAtTheEdge();
        jumpsAtTheEdge();
        callsTakeParameters();
        returning();
        twentyAreKept();
        failuresOfKind();
        failuresInTheirOrder();
        failuresChangeNothing();
        handlersAtTheEdge();
        linesOfFailures();
        cachesKeepThreeKeys();
        cachesOfMethods();
        cachesThatAreNotMet();
        Bench.end();
    }

    private static void sentence(String text) {
        Bench.sentence(text);
    }

    private static void ends(String text, String want) {
        Bench.due(text, Bench.ends(text), want);
    }

    private static String integer(int value) {
        return "i" + value;
    }

    // ---- values

    private static void integersHaveARange() {
        sentence("Values: an integer from -2147483648 to 2147483647");
        for (int value : new int[] {Integer.MIN_VALUE, Integer.MIN_VALUE + 1, -1, 0, 1, Integer.MAX_VALUE - 1, Integer.MAX_VALUE}) {
            ends(integer(value) + " r", integer(value));
            Tracewheel x = Bench.machine(1, "1: n0 s1 l1 l0 p0 l0 t k3 t l0 r");
            x.setCell(3, value);
            x.run(0, value);
            Bench.due("the argument, a field, a cell", Bench.told(x) + " " + Bench.ending(x) + " " + x.field(0, 0),
                integer(value) + " " + integer(value) + " " + integer(value) + " " + value);
        }
    }

    /** What 'z' does with the value of a program: "null" or "not". */
    private static String nullness(String text) {
        int length = text.trim().split(" +").length;
        String end = Bench.ends(text + " z" + (length + 3) + " i1 r i2 r");
        return end.equals("i2") ? "null" : end.equals("i1") ? "not" : end;
    }

    private static void valuesThatAreNull() {
        sentence("Values: A value is null if it is nothing, the integer 0, or a float that equals 0.0.");
        Bench.due("nothing", nullness("l5"), "null");
        Bench.due("0", nullness("i0"), "null");
        Bench.due("0.0", nullness(HALF + "u -"), "null");
        Bench.due("-0.0", nullness(MINUS_ZERO), "null");
        Bench.due("half of the least float", nullness(LEAST + "i2 /"), "null");
        Bench.due("the least float", nullness(LEAST), "not");
        Bench.due("the least float below 0", nullness(LEAST + "i-1 *"), "not");
        Bench.due("1", nullness("i1"), "not");
        Bench.due("-1", nullness("i-1"), "not");
        Bench.due("the least integer", nullness("i-2147483648"), "not");
        Bench.due("65536", nullness("i65536"), "not");
        Bench.due("object 0", nullness("n0"), "not");
        Bench.due("object 1", nullness("n0 d n0"), "not");
        Bench.due("a float that is no number", nullness(UNDEFINED), "not");
        Bench.due("an endless float", nullness(ENDLESS), "not");
    }

    // ---- functions and classes

    private static void functionsFromZeroToSeven() {
        sentence("Functions: At most 8 functions are numbered from 0.");
        Tracewheel x = Bench.machine(0, "1: c7 r", "1: i1 r", "1: i2 r", "1: i3 r", "1: i4 r", "1: i5 r", "1: i6 r",
            "0: i0 c1 t i0 c2 t i0 c3 t i0 c4 t i0 c5 t i0 c6 r");
        x.run(0, 0);
        Bench.due("all functions", Bench.told(x) + " " + Bench.ending(x), "i1 i2 i3 i4 i5 i6");
    }

    private static void indicesFromZeroToThirtyNine() {
        sentence("Functions: at most 40 instructions, at the indices from 0");
        Tracewheel x = Bench.machine(0, "1: j39 " + Bench.times(38, "i9") + "l0", "1: j38 " + Bench.times(37, "i9") + "l0 r",
            "1: j5 l0 r");
        x.run(0, 3);
        Bench.due("behind the last index", Bench.ending(x), "xe40");
        x.run(1, 3);
        Bench.due("up to the last index", Bench.ending(x), "i3");
        x.run(2, 3);
        Bench.due("an index without instruction", Bench.ending(x), "xe205");
        Bench.write(x, 2, "r r i7 r");
        x.run(2, 3);
        Bench.due("an index that has got one", Bench.ending(x), "i7");
    }

    private static void namesFromZeroToFive() {
        sentence("Functions: names 0 to 5");
        Tracewheel x = Bench.machine(1, "1: n0 s1 l1 i10 p0 l1 i11 p1 l1 i12 p2 l1 i13 p3 l1 i14 p4 l1 i15 p5 "
            + "l1 g0 t l1 g1 t l1 g2 t l1 g3 t l1 g4 t l1 g5");
        x.run(0, 0);
        Bench.due("fields by all names", Bench.told(x), "i10 i11 i12 i13 i14");
        Bench.due("the shapes to them", x.shapes() + " " + x.fields(6), "7 6");
    }

    private static void parentsOfParents() {
        sentence("Classes: for other names, it has what its parent has");
        Tracewheel x = Bench.machine(0, "1:", "1: i10 r", "1: i12 r", "1: i14 r");
        for (int parent = -1; parent < 4; parent++) {
            x.addClass(parent);
        }
        Bench.write(x, 0, "n4 m5 t n3 m5 t n2 m5 t n1 m5 t n0 m5 t i8 r");
        x.run(0, 0);
        Bench.due("no method", Bench.ending(x), "xm1");
        x.setMethod(0, 5, 1);
        x.run(0, 0);
        Bench.due("that of the first of five", Bench.told(x) + " " + Bench.ending(x), "i10 i10 i10 i10 i10 i8");
        x.setMethod(2, 5, 2);
        x.setMethod(4, 5, 3);
        x.run(0, 0);
        Bench.due("their own", Bench.told(x), "i14 i12 i12 i10 i10");
        x.setMethod(3, 4, 1);
        x.run(0, 0);
        Bench.due("another name changes nothing", Bench.told(x), "i14 i12 i12 i10 i10");
        Tracewheel y = Bench.machine(2, "1: n1 m0 r", "1: i3 r");
        y.setMethod(0, 0, 1);
        y.run(0, 0);
        Bench.due("a class without parent", Bench.ending(y), "xm1");
    }

    // ---- shapes

    private static void shapesUpToSixty() {
        sentence("Failures: 'f' .. there are 60 shapes and another one would have to come to be for 'p'");
        Tracewheel x = Bench.withShapes57("n0 s1 l1 i1 p1 l1 i1 p2 l1 i7 p3 l1 i8 p4 l1 i9 p5 i6 r");
        Bench.due("shapes at first", x.shapes(), 57);
        Bench.due("instructions", x.run(3, 0), 17);
        Bench.due("the 61st shape", Bench.ending(x) + " " + x.shapes(), "xf316 60");
        Bench.due("the last shape", x.shapeOf(0) + " " + x.fields(59) + " " + x.fieldAt(59, 3), "59 4 4");
        Bench.fails("the field is not put", java.util.NoSuchElementException.class, () -> x.field(0, 5));
        x.setHandler(3, 17);
        x.run(3, 0);
        Bench.due("the failure's letter", Bench.ending(x) + " " + x.shapes(), "i6 60");
        Bench.due("agreement", x.agrees() && x.isSound(), true);
        Tracewheel y = Bench.withShapes57("n0 u i1 p1 u i1 p2 u i1 p3 i1 p4 i6 r");
        y.run(3, 0);
        Bench.due("the 60th shape", Bench.ending(y) + " " + y.shapes() + " " + y.agrees(), "i6 60 true");
    }

    private static void shapesThatAreThere() {
        sentence("Shapes: the shape that follows its shape by this name .. comes to be if it is not there");
        Tracewheel x = Bench.withShapes57("n0 u i1 p1 u i1 p2 u i1 p3 i1 p4 i6 r");
        x.run(3, 0);
        x.run(3, 0);
        Bench.due("shapes that are there serve at 60", Bench.ending(x) + " " + x.shapes() + " " + x.shapeOf(0), "i6 60 59");
        x.run(1, 0);
        Bench.due("all six fields at 60", Bench.ending(x) + " " + x.shapes() + " " + x.fields(x.shapeOf(5)), "o5 60 6");
        sentence("Shapes: When a name that is no field of an object is put, the object gets the shape that follows");
        Tracewheel y = Bench.machine(1, "1: n0 s1 l1 i1 p0 l1 i2 p0 l1 i3 p1 l1 i4 p0 l1 i5 p1 l1 r");
        y.run(0, 0);
        Bench.due("fields that are there leave the shape", y.shapes() + " " + y.shapeOf(0), "3 2");
        Bench.due("their values", y.field(0, 0) + " " + y.field(0, 1), "4 5");
        sentence("Shapes: numbered from 0, in the order in which they come to be");
        Tracewheel z = Bench.machine(2, "1: n1 u i1 p0 u i1 p1 d n0 u i1 p1 u i1 p0 d n1 u i1 p1 r");
        Bench.due("the shapes of classes", z.shapes(), 2);
        z.run(0, 0);
        Bench.due("shapes", z.shapes() + ": " + z.nextShape(1, 0) + z.nextShape(2, 1) + z.nextShape(0, 1) + z.nextShape(4, 0)
            + z.nextShape(1, 1), "7: 23456");
        Bench.due("a class that is added later", z.addClass(-1) + " " + z.shapes() + " " + z.fields(7), "2 8 0");
    }

    // ---- running

    private static void localsFromZeroToFive() {
        sentence("Running: the locals 0 to 5, of which the first ones are the parameters and the others nothing at first");
        Tracewheel x = Bench.machine(0, "1: i1 i2 i3 c1 r", "3: l0 t l1 t l2 t l3 t l4 t l5 t i4 s3 i5 s4 i6 s5 l3 t l4 t l5 r",
            "1: c3 d c3 r", "0: l0 t l5 t i1 s0 i1 s5 l0 r");
        x.run(0, 0);
        Bench.due("three parameters", Bench.told(x) + " " + Bench.ending(x), "i1 i2 i3 n0 n0 n0 i4 i5 i6");
        x.run(2, 0);
        Bench.due("no parameters", Bench.told(x), "n0 n0 n0 n0");
    }

    private static void stacksOfEight() {
        sentence("Running: a stack of at most 8 values / Failures: 's' the stack .. would have more than 8");
        for (String pusher : "i1 k0 l0 u n0".split(" ")) {
            ends(SEVEN + pusher + " d r", "i1");
            ends(EIGHT + pusher, "xs8");
        }
        for (String exchanger : "w s1 d t z9".split(" ")) {
            ends(EIGHT + exchanger + " i1", exchanger.equals("w") ? "xs9" : "xe10");
        }
        for (String two : "+ - * / % < =".split(" ")) {
            ends(EIGHT + two + " i1 i1", "xs10");
        }
        ends(EIGHT + "j9 i1", "xs9");
        ends("n0 s1 l1 i5 p0 " + SEVEN + "l1 g0 r", "i5");
        ends("n0 s1 " + Bench.times(6, "i1") + "l1 i5 p0 i1 i1 i1", "xs13");
        sentence("Failures: 's' the stack has fewer values than it takes");
        for (String one : "s0 u d w z2 g0 m0 r t".split(" ")) {
            ends(one, "xs0");
        }
        for (String two : "+ - * / % < = p0".split(" ")) {
            ends(two, "xs0");
            ends("n0 " + two, "xs1");
        }
        ends("i1 i2 + r", "i3");
        ends("n0 i1 p0 i2 r", "i2");
    }

    private static void framesUpToTwelve() {
        sentence("Running: At most 12 frames are there at once / Failures: 'd' there are 12 frames, for 'c' and 'm'");
        Tracewheel x = Bench.machine(1, "1: l0 i1 - u z6 c0 r", "1: n0 u l0 p0 m0 r",
            "1: l0 l0 g0 i1 - p0 l0 g0 z12 l0 m0 r i7 r");
        x.setMethod(0, 0, 2);
        x.run(0, 11);
        Bench.due("11 frames", Bench.ending(x), "i0");
        x.run(0, 12);
        Bench.due("12 frames", Bench.ending(x), "i0");
        x.run(0, 13);
        Bench.due("13 frames", Bench.ending(x), "xd5");
        x.run(1, 11);
        Bench.due("12 frames of methods", Bench.ending(x), "i7");
        x.run(1, 12);
        Bench.due("13 frames of methods", Bench.ending(x), "xd210");
        Tracewheel y = Bench.machine(0, "1: i3 c1 d i2 c1 d i1 c1 r", "1: l0 i1 - u z6 c1 r");
        y.run(0, 0);
        Bench.due("frames that have ended leave room", Bench.ending(y), "i0");
    }

    private static void objectsUpToSixty() {
        sentence("Running: A run makes at most 60 objects, numbered from 0 / Failures: 'o' there are 60 objects, for 'n'");
        Tracewheel x = Bench.machine(1, "1: n0 d l0 i1 - u s0 z9 j0 i7 r", "1: n0 d l0 i1 - u s0 z9 j0 n0 r");
        x.run(0, 59);
        Bench.due("59 objects", Bench.ending(x) + " " + x.objects(), "i7 59");
        x.run(0, 60);
        Bench.due("60 objects", Bench.ending(x) + " " + x.objects(), "i7 60");
        x.run(0, 61);
        Bench.due("61 objects", Bench.ending(x) + " " + x.objects(), "xo0 60");
        x.run(1, 59);
        Bench.due("the number of the last", Bench.ending(x), "o59");
        Tracewheel y = Bench.machine(1, "1: n0 d j0 r");
        y.setHandler(0, 3);
        Bench.due("instructions with an object too many", y.run(0, 0), 60 * 3 + 2);
        Bench.due("its handler", Bench.ending(y) + " " + y.objects(), "i111 60");
        sentence("Running: objects .. which are gone when the next run begins");
        x.run(1, 1);
        Bench.due("numbered from 0 again", Bench.ending(x) + " " + x.objects(), "o1 2");
    }

    private static final String SEVENS = "1: l0 i1 - u s0 z7 j0 ";

    private static void instructionsUpToAThousand() {
        sentence("Running: executes at most 1000 instructions / Failures: If 1000 have been executed and another one is to be");
        Tracewheel x = Bench.machine(0, SEVENS + "j8 j9 j10 j11 j12 i5 r", SEVENS + "j8 j9 j10 j11 j12 j13 i5 r",
            SEVENS + "j8 j9 j10 j11 i5 r");
        Bench.due("999 instructions", x.run(2, 142) + " " + Bench.ending(x), "999 i5");
        Bench.due("1000 instructions", x.run(0, 142) + " " + Bench.ending(x), "1000 i5");
        Bench.due("1001 instructions", x.run(1, 142) + " " + Bench.ending(x), "1000 xl114");
        Bench.due("1000 again, with traces from the first jump on", x.run(0, 142) + " " + Bench.ending(x) + " " + x.agrees(),
            "1000 i5 true");
        Bench.due("1001 again", x.run(1, 142) + " " + Bench.ending(x) + " " + x.agrees(), "1000 xl114 true");
    }

    private static void aThousandWithFailures() {
        sentence("Failures: An instruction that fails .. counts as executed .. ends with the failure 'l'");
        String pads = "j8 j9 j10 j11 j12 ";
        Tracewheel x = Bench.machine(0, SEVENS + pads + "j13 r", SEVENS + pads + "j13 j14 r", SEVENS + pads + "j13");
        Bench.due("the 1000th fails", x.run(0, 142) + " " + Bench.ending(x), "1000 xs13");
        Bench.due("the 1001st would fail", x.run(1, 142) + " " + Bench.ending(x), "1000 xl114");
        Bench.due("there is none to be the 1000th", x.run(2, 142) + " " + Bench.ending(x), "1000 xe213");
        x.setHandler(0, 14);
        Bench.write(x, 0, "l0 r");
        Bench.due("the 1000th fails with a handler", x.run(0, 142) + " " + Bench.ending(x), "1000 xl14");
        Bench.due("the 999th fails with a handler", x.run(0, 1) + " " + Bench.ending(x), "15 i0");
        x.setHandler(1, 15);
        Bench.write(x, 1, "i3 r");
        Bench.due("'l' has no handler", x.run(1, 142) + " " + Bench.ending(x), "1000 xl114");
    }

    // ---- instructions

    private static final double TWO_31 = 2147483648.0;

    private static void sumsAtTheEdge() {
        sentence("Instructions: Of two integers, '+' .. give the integer, or if it is out of range, the float");
        ends("i2147483646 i1 + r", "i2147483647");
        ends("i2147483647 i0 + r", "i2147483647");
        ends("i2147483647 i1 + r", "f" + TWO_31);
        ends("i2147483647 i2147483647 + r", "f" + 4294967294.0);
        ends("i-2147483647 i-1 + r", "i-2147483648");
        ends("i-2147483648 i0 + r", "i-2147483648");
        ends("i-2147483648 i-1 + r", "f" + -2147483649.0);
        ends("i-2147483648 i-2147483648 + r", "f" + -4294967296.0);
        ends("i-2147483648 i2147483647 + r", "i-1");
    }

    private static void differencesAtTheEdge() {
        sentence("Instructions: Of two integers, '-' .. give the integer, or if it is out of range, the float");
        ends("i-2147483647 i1 - r", "i-2147483648");
        ends("i-2147483648 i1 - r", "f" + -2147483649.0);
        ends("i2147483646 i-1 - r", "i2147483647");
        ends("i2147483647 i-1 - r", "f" + TWO_31);
        ends("i0 i-2147483648 - r", "f" + TWO_31);
        ends("i-1 i-2147483648 - r", "i2147483647");
        ends("i0 i2147483647 - r", "i-2147483647");
        ends("i-2147483648 i2147483647 - r", "f" + -4294967295.0);
    }

    private static void productsAtTheEdge() {
        sentence("Instructions: Of two integers, '*' .. give the integer, or if it is out of range, the float of both as floats");
        ends("i46340 i46340 * r", "i2147395600");
        ends("i46341 i46341 * r", "f" + 2147488281.0);
        ends("i65536 i32768 * r", "f" + TWO_31);
        ends("i65536 i-32768 * r", "i-2147483648");
        ends("i65536 i65536 * r", "f" + 4294967296.0);
        ends("i-2147483648 i1 * r", "i-2147483648");
        ends("i-2147483648 i-1 * r", "f" + TWO_31);
        ends("i2147483647 i-1 * r", "i-2147483647");
        ends("i2147483647 i2147483647 * r", "f" + 2147483647.0 * 2147483647.0);
        ends("i2147483647 i2147483645 * r", "f" + 2147483647.0 * 2147483645.0);
        ends("i-2147483648 i-2147483648 * r", "f" + TWO_31 * TWO_31);
        ends("i0 i-5 * r", "i0");
    }

    private static void quotientsAtTheEdge() {
        sentence("Instructions: '/' gives the quotient rounded toward 0 in the same way");
        ends("i1 i2 / r", "i0");
        ends("i-1 i2 / r", "i0");
        ends("i1 i-2 / r", "i0");
        ends("i-3 i-2 / r", "i1");
        ends("i2147483647 i-1 / r", "i-2147483647");
        ends("i-2147483648 i1 / r", "i-2147483648");
        ends("i-2147483648 i-1 / r", "f" + TWO_31);
        ends("i-2147483648 i2 / r", "i-1073741824");
        ends("i-2147483648 i-2147483648 / r", "i1");
        ends("i2147483647 i-2147483648 / r", "i0");
        ends("i0 i-7 / r", "i0");
    }

    private static void restsAtTheEdge() {
        sentence("Instructions: '%' the rest that it leaves, with the sign of the first one");
        ends("i7 i3 % r", "i1");
        ends("i-7 i3 % r", "i-1");
        ends("i7 i-3 % r", "i1");
        ends("i-7 i-3 % r", "i-1");
        ends("i-6 i3 % r", "i0");
        ends("i2 i3 % r", "i2");
        ends("i-2147483648 i-1 % r", "i0");
        ends("i-2147483648 i2147483647 % r", "i-1");
        ends("i2147483647 i-2147483648 % r", "i2147483647");
        ends("i-2147483648 i-2147483648 % r", "i0");
    }

    private static void floatsAtTheEdge() {
        sentence("Instructions: If one of both is a float, all are done with both as doubles, as Java does.");
        ends(LEAST + "r", "f" + Double.MIN_VALUE);
        ends(LEAST + "i2 / r", "f0.0");
        ends(LEAST + "i-2 / r", "f-0.0");
        ends(LEAST + "i3 * i2 / r", "f" + 2 * Double.MIN_VALUE);
        ends(LEAST + "u % r", "f0.0");
        ends(LEAST + "u i3 * s1 l1 i2 / s2 l1 l2 % r", "f" + 3 * Double.MIN_VALUE % (2 * Double.MIN_VALUE));
        ends("i1 " + LEAST + "/ r", "fInfinity");
        ends("i-1 " + LEAST + "/ r", "f-Infinity");
        ends(ENDLESS + "i-1 * r", "f-Infinity");
        ends("i1 " + HALF + "u - / r", "fInfinity");
        ends("i-1 " + HALF + "u - / r", "f-Infinity");
        ends("i1 " + MINUS_ZERO + "/ r", "f-Infinity");
        ends("i0 " + HALF + "u - / r", "fNaN");
        ends("i0 " + MINUS_ZERO + "+ r", "f0.0");
        ends(MINUS_ZERO + "u + r", "f-0.0");
        ends(MINUS_ZERO + "i0 - r", "f-0.0");
        ends(MINUS_ZERO + "u - r", "f0.0");
        ends(HALF + "i0 / r", "fInfinity");
        ends(HALF + "i0 % r", "fNaN");
        ends(HALF + "i3 % r", "f0.5");
        ends(HALF + "i-1 * i3 % r", "f-0.5");
        ends("i3 " + HALF + "% r", "f0.0");
        ends("i-3 " + HALF + "% r", "f-0.0");
        ends("i0 " + HALF + "% r", "f0.0");
        ends(MINUS_ZERO + HALF + "% r", "f-0.0");
        ends("i5 " + ENDLESS + "% r", "f5.0");
        ends("i5 " + ENDLESS + "i-1 * % r", "f5.0");
        ends(ENDLESS + "u % r", "fNaN");
        ends(ENDLESS + "i5 % r", "fNaN");
        ends("i5 " + UNDEFINED + "% r", "fNaN");
        ends(UNDEFINED + "i5 % r", "fNaN");
        ends(HALF_IN_1 + "l1 l1 + r", "f1.0");
        ends(HALF_IN_1 + "l1 l1 + i-1 * r", "f-1.0");
        restsOfFloats();
        endlessFloats();
        greatestFloat();
    }

    private static void restsOfFloats() {
        ends(TWO_TO_31 + "i2 % r", "f0.0");
        ends(TWO_TO_31 + "i1 % r", "f0.0");
        ends(TWO_TO_31 + "u % r", "f0.0");
        ends(TWO_TO_31 + "i-1 * i2 % r", "f-0.0");
        ends(TWO_TO_31 + "i2147483647 % r", "f1.0");
        ends("i2147483647 " + TWO_TO_31 + "% r", "f2.147483647E9");
        ends(HALF_IN_1 + "l1 i-1 * l1 i2 / % r", "f-0.0");
        ends(HALF_IN_1 + "l1 l1 i-2 / % r", "f0.0");
        ends(HALF_IN_1 + "l1 l1 i2 / + l1 % r", "f0.25");
        ends(HALF_IN_1 + "l1 l1 i2 / + i-1 * l1 % r", "f-0.25");
        ends(HALF_IN_1 + "l1 l1 i2 / + l1 i-1 * % r", "f0.25");
        ends(HALF_IN_1 + "i3 l1 i-1 * % r", "f0.0");
        ends(HALF_IN_1 + "i-3 l1 l1 i2 / + % r", "f-0.0");
        ends(HALF_IN_1 + "i-2 l1 l1 i2 / + % r", "f-0.5");
    }

    private static void endlessFloats() {
        String endless = ENDLESS + "s1 ";
        ends(endless + "l1 l1 + r", "fInfinity");
        ends(endless + "l1 l1 i-1 * + r", "fNaN");
        ends(endless + "l1 i-1 * l1 + r", "fNaN");
        ends(endless + "l1 i-1 * u + r", "f-Infinity");
        ends(endless + "l1 i-5 + r", "fInfinity");
        ends(endless + "i-5 l1 + r", "fInfinity");
        ends(endless + "i5 l1 i-1 * + r", "f-Infinity");
        ends(endless + "l1 l1 - r", "fNaN");
        ends(endless + "l1 l1 i-1 * - r", "fInfinity");
        ends(endless + "l1 i-1 * l1 - r", "f-Infinity");
        ends(endless + "l1 i-1 * u - r", "fNaN");
        ends(endless + "i5 l1 - r", "f-Infinity");
        ends(endless + "l1 i5 - r", "fInfinity");
        ends(endless + "l1 l1 * r", "fInfinity");
        ends(endless + "l1 l1 i-1 * * r", "f-Infinity");
        ends(endless + "l1 i0 * r", "fNaN");
        ends(endless + "i0 l1 * r", "fNaN");
        ends(endless + "l1 i-1 * i0 * r", "fNaN");
        ends(endless + "i1 l1 * r", "fInfinity");
        ends(endless + "l1 l1 / r", "fNaN");
        ends(endless + "l1 l1 i-1 * / r", "fNaN");
        ends(endless + "l1 i0 / r", "fInfinity");
        ends(endless + "i0 l1 / r", "f0.0");
        ends(endless + "i-5 l1 / r", "f-0.0");
        ends(endless + "l1 i-5 / r", "f-Infinity");
        ends(endless + "l1 i0 % r", "fNaN");
        ends(endless + "i0 l1 % r", "f0.0");
    }

    /** 2 to the 1023 and what goes over the greatest float: 2 to the 992 times 2 to the 31. */
    private static void greatestFloat() {
        String top = TWO_TO_31 + "s1 l1 u * u * u * u * u * l1 * s2 ";
        ends(top + "l2 r", "f" + Math.scalb(1.0, 1023));
        ends(top + "l2 i2 * r", "fInfinity");
        ends(top + "l2 u + r", "fInfinity");
        ends(top + "l2 i-2 * r", "f-Infinity");
        ends(top + "l2 l2 i2 / + r", "f" + (Math.scalb(1.0, 1023) + Math.scalb(1.0, 1022)));
        ends(top + "l2 i3 % r", "f" + Math.scalb(1.0, 1023) % 3.0);
        ends(top + "l2 i8 / i-7 * i1000003 % r", "f" + Math.scalb(-7.0, 1020) % 1000003.0);
        ends(top + "l2 l2 i1 - = r", "i1");
        String greatest = GREATEST + "s2 ";
        ends(greatest + "l2 r", "f" + Double.MAX_VALUE);
        ends(greatest + "l2 i-1 * r", "f" + -Double.MAX_VALUE);
        ends(greatest + "l2 l2 - r", "f0.0");
        ends(greatest + "l2 i-1 * u - r", "f0.0");
        ends(greatest + "l2 l2 / r", "f1.0");
        ends(greatest + "l2 l2 % r", "f0.0");
        ends(greatest + "l2 i7 % r", "f" + Double.MAX_VALUE % 7.0);
        ends(greatest + "l2 i1 + r", "f" + Double.MAX_VALUE);
        ends(greatest + "l2 l2 + r", "fInfinity");
        ends(greatest + "l2 i-2 * r", "f-Infinity");
        ends(greatest + "l2 i0 * r", "f0.0");
        ends(greatest + "l2 w r", "xw25");
        Tracewheel x = Bench.machine(0, "1: " + top + "l2 l2 l2 i9007199 / i119 / i8 / - + r");
        x.run(0, 0);
        double half = Math.scalb(1.0, 1023);
        Bench.due("the bits of a float near the greatest", x.result(),
            Double.doubleToLongBits(half + (half - half / 9007199.0 / 119.0 / 8.0)));
    }

    private static void answersOfAllKinds() {
        sentence("Promise 12: Returns the integer, the bits of the float, as Double.doubleToLongBits tells them, the object's number, or 0");
        answers(UNDEFINED, 'f', Double.doubleToLongBits(Double.NaN));
        answers(ENDLESS, 'f', Double.doubleToLongBits(Double.POSITIVE_INFINITY));
        answers(ENDLESS + "i-1 * ", 'f', Double.doubleToLongBits(Double.NEGATIVE_INFINITY));
        answers(HALF + "u - ", 'f', Double.doubleToLongBits(0.0));
        answers(MINUS_ZERO, 'f', Double.doubleToLongBits(-0.0));
        answers(LEAST, 'f', Double.doubleToLongBits(Double.MIN_VALUE));
        answers(LEAST + "i-1 * ", 'f', Double.doubleToLongBits(-Double.MIN_VALUE));
        answers(GREATEST, 'f', Double.doubleToLongBits(Double.MAX_VALUE));
        answers(GREATEST + "i-1 * ", 'f', Double.doubleToLongBits(-Double.MAX_VALUE));
        answers(HALF + "u + ", 'f', Double.doubleToLongBits(1.0));
        answers("i-1 " + HALF + "* ", 'f', Double.doubleToLongBits(-0.5));
        answers("i-1 ", 'i', -1L);
        answers("i-2147483648 ", 'i', -2147483648L);
        answers("i2147483647 ", 'i', 2147483647L);
        answers("l5 ", 'n', 0L);
        answers("n0 ", 'o', 0L);
        answers("n0 d n0 d n0 ", 'o', 2L);
        Tracewheel x = least();
        for (int halvings : new int[] {21, 22, 23, 51, 52, 53, 71, 72, 73, 74, 75}) {
            x.run(0, halvings);
            double want = 7.0 * Math.scalb(1.0, -1000);
            for (int i = 0; i < halvings; i++) {
                want = want / 2;
            }
            Bench.due("the bits of a float with fewer digits, behind " + halvings, x.result(), Double.doubleToLongBits(want));
        }
    }

    /** 7 * 2 to the -1000, halved as often as the argument says. */
    private static Tracewheel least() {
        return Bench.machine(0, "1: " + TWO_TO_31 + "u * u * u * u * u * s1 i7 l1 / i256 / s1 l1 i2 / s1 l0 i1 - u s0 z31 j20 l1 r");
    }

    /** What result(), toldAt() and field() answer of a value. */
    private static void answers(String words, char kind, long bits) {
        Tracewheel x = Bench.machine(1, "1: " + words + "s1 l1 t l1 r", "1: n0 c2 r", "1: " + words + "s1 l0 l1 p3 l0 r");
        x.run(0, 0);
        Bench.due("the end of " + words, x.resultKind() + " " + x.result(), kind + " " + bits);
        Bench.due("told of " + words, x.toldKind(0) + " " + x.toldAt(0), kind + " " + bits);
        x.run(1, 0);
        Bench.due("a field of " + words, x.field(0, 3), kind == 'o' ? bits + 1 : bits);
    }

    private static void roundingAtTheEdge() {
        sentence("Instructions: 'w' .. the integer nearest to it, of two as near as each other the even one");
        ends(HALF_IN_1 + "l1 w r", "i0");
        ends(HALF_IN_1 + "i1 l1 + w r", "i2");
        ends(HALF_IN_1 + "i2 l1 + w r", "i2");
        ends(HALF_IN_1 + "i3 l1 + w r", "i4");
        ends(HALF_IN_1 + "i-1 l1 + w r", "i0");
        ends(HALF_IN_1 + "i-1 l1 - w r", "i-2");
        ends(HALF_IN_1 + "i-2 l1 - w r", "i-2");
        ends(HALF_IN_1 + "i-3 l1 - w r", "i-4");
        ends(HALF_IN_1 + "l1 l1 i67108864 / i67108864 / + w r", "i1");
        ends(HALF_IN_1 + "l1 l1 i67108864 / i134217728 / - w r", "i0");
        ends(HALF_IN_1 + "l1 l1 i67108864 / i67108864 / + i-1 * w r", "i-1");
        ends(HALF_IN_1 + "i2147483645 l1 + w r", "i2147483646");
        ends(HALF_IN_1 + "i2147483646 l1 + w r", "i2147483646");
        ends(MINUS_ZERO + "w r", "i0");
        ends(LEAST + "w r", "i0");
        for (int value : new int[] {Integer.MIN_VALUE, -1, 0, 1, Integer.MAX_VALUE}) {
            ends(integer(value) + " w r", integer(value));
            ends(HALF_IN_1 + integer(value) + " l1 + l1 - w r", integer(value));
        }
        sentence("Failures: 'w' the float that 'w' takes has no such integer from -2147483648 to 2147483647");
        ends(HALF_IN_1 + "i2147483647 l1 + l1 i2097152 / - w r", "i2147483647");
        ends(HALF_IN_1 + "i2147483647 l1 + w r", "xw11");
        ends(HALF_IN_1 + "i-2147483648 l1 - w r", "i-2147483648");
        ends(HALF_IN_1 + "i-2147483648 l1 - l1 i1048576 / - w r", "xw15");
        ends(TWO_TO_31 + "w r", "xw3");
        ends("i-2147483648 i1 - w r", "xw3");
        ends("i-2147483648 i-1 / i-1 * w r", "i-2147483648");
        ends(ENDLESS + "w r", "xw15");
        ends(ENDLESS + "i-1 * w r", "xw17");
        ends(UNDEFINED + "w r", "xw17");
    }

    private static void lessAtTheEdge() {
        sentence("Instructions: '<' gives the integer 1 if the first one is less, and 0 otherwise.");
        ends("i3 i4 < r", "i1");
        ends("i4 i4 < r", "i0");
        ends("i5 i4 < r", "i0");
        ends("i-2147483648 i2147483647 < r", "i1");
        ends("i2147483647 i-2147483648 < r", "i0");
        ends("i2147483647 " + TWO_TO_31 + "< r", "i1");
        ends(TWO_TO_31 + "i2147483647 < r", "i0");
        ends("i0 " + LEAST + "< r", "i1");
        ends(LEAST + "i0 < r", "i0");
        ends(MINUS_ZERO + "i0 < r", "i0");
        ends("i0 " + MINUS_ZERO + "< r", "i0");
        ends(ENDLESS + "u < r", "i0");
        ends(ENDLESS + "i-1 * i-2147483648 < r", "i1");
        ends(UNDEFINED + "u < r", "i0");
        ends(UNDEFINED + "i1 < r", "i0");
        ends("i1 " + UNDEFINED + "< r", "i0");
    }

    private static void equalAtTheEdge() {
        sentence("Instructions: '=' .. 1 if both are numbers that are equal as floats, the same object, or nothing, and 0 otherwise");
        ends("i-2147483648 i2147483647 = r", "i0");
        ends("i2147483647 i2147483647 = r", "i1");
        ends("i2147483647 i2147483646 = r", "i0");
        ends("i-2147483648 i-2147483648 i-1 / i-1 * = r", "i1");
        ends("i2147483647 " + TWO_TO_31 + "= r", "i0");
        ends("i0 " + MINUS_ZERO + "= r", "i1");
        ends(MINUS_ZERO + HALF + "u - = r", "i1");
        ends("i0 " + LEAST + "= r", "i0");
        ends(ENDLESS + "u = r", "i1");
        ends(ENDLESS + "u i-1 * = r", "i0");
        ends(UNDEFINED + "u = r", "i0");
        ends(UNDEFINED + "i0 = r", "i0");
        ends("i0 " + UNDEFINED + "= r", "i0");
        ends("n0 u = r", "i1");
        ends("n0 n0 = r", "i0");
        ends("n0 d n0 n0 d i1 = r", "i0");
        ends("l4 l5 = r", "i1");
        ends("l5 i0 = r", "i0");
        ends("i0 l5 = r", "i0");
        ends("n0 i0 = r", "i0");
        ends("i0 n0 = r", "i0");
        ends("n0 l5 = r", "i0");
        ends("l5 n0 = r", "i0");
        ends(MINUS_ZERO + "l5 = r", "i0");
    }

    private static void jumpsAtTheEdge() {
        sentence("Instructions: 'j' goes to the index a; 'z' takes a value and goes to the index a if it is null.");
        ends("j2 r i1 r", "i1");
        ends("j1 i3 r", "i3");
        ends("i1 i0 z3 r", "i1");
        ends("i4 i1 z0 r", "i4");
        ends("l0 i1 - u s0 z7 j0 i6 r", "i6");
        ends("j39", "xe39");
        ends("i0 z39", "xe39");
        ends("j0", "xl0");
        ends("i5 z0 i1 r", "i1");
        ends("i0 i0 i0 z3", "xs3");
    }

    private static void callsTakeParameters() {
        sentence("Instructions: 'c' takes as many values as the function a has parameters, the uppermost one being the last one");
        Tracewheel x = Bench.machine(0, "1:", "0: i8 r", "1: l0 r", "2: l0 i10 * l1 + r", "3: l0 i10 * l1 + i10 * l2 + r");
        Bench.write(x, 0, "c1 t i1 c2 t i1 i2 c3 t i1 i2 i3 c4 t i7 i1 i2 i3 c4 - r");
        x.run(0, 0);
        Bench.due("0 to 3 values", Bench.told(x) + " " + Bench.ending(x), "i8 i1 i12 i123 i-116");
        for (int parameters = 1; parameters <= 3; parameters++) {
            Tracewheel y = Bench.machine(0, "1:", parameters + ": l0 r");
            Bench.write(y, 0, Bench.times(parameters - 1, "i1") + "c1 r");
            y.run(0, 0);
            Bench.due("one value too few for " + parameters, Bench.ending(y), "xs" + (parameters - 1));
        }
        Tracewheel z = Bench.machine(1, "1: " + Bench.times(8, "i1") + "c1 + + + + + r", "3: l0 l1 + l2 + i7 + r",
            "1: " + Bench.times(7, "i1") + "n0 m0 + + + + + + + r", "1: i1 r");
        z.setMethod(0, 0, 3);
        z.run(0, 0);
        Bench.due("'c' with a full stack", Bench.ending(z), "i15");
        z.run(2, 0);
        Bench.due("'m' with a full stack", Bench.ending(z), "i8");
    }

    private static void returning() {
        sentence("Failures: 's' the stack .. would have more than 8, for 'r' that of the frame below");
        Tracewheel x = Bench.machine(0, "1: " + EIGHT + "c2 r", "1: " + SEVEN + "c2 + + + + + + + r", "0: i5 r",
            "1: " + EIGHT + "r", "0: " + EIGHT + "r", "1: c4 r");
        x.run(0, 0);
        Bench.due("'r' to eight values", Bench.ending(x), "xs201");
        x.run(1, 0);
        Bench.due("'r' to seven values", Bench.ending(x), "i12");
        x.run(3, 0);
        Bench.due("'r' of the last frame with eight values", Bench.ending(x), "i1");
        x.run(5, 0);
        Bench.due("'r' with eight values to none", Bench.ending(x), "i1");
        sentence("Instructions: 'r' .. in the last frame, the run ends with this value");
        ends("l0 r", "i10");
        ends("l1 r", "n0");
        ends("n0 r", "o0");
        ends("n0 d n1 r", "o1");
        ends(HALF + "r", "f0.5");
        sentence("Failures: 's' .. fewer values than it takes: 'r' of a frame without values");
        Tracewheel y = Bench.machine(0, "1: l0 c1 r", "1: r");
        y.run(0, 0);
        Bench.due("'r' without a value", Bench.ending(y), "xs100");
    }

    private static void twentyAreKept() {
        sentence("Instructions: 't' takes a value and tells it; the first 20 that are told in a run are kept.");
        Tracewheel x = Bench.machine(0, "1: l0 t l0 i1 - u s0 z9 j0 l0 r", "1: " + Bench.times(19, "l0 t") + "l0 r",
            "1: " + Bench.times(18, "l0 t") + "i5 t l0 r");
        for (int count : new int[] {1, 19, 20, 21, 22, 80}) {
            x.run(0, count);
            Bench.due(count + " told", x.told(), Math.min(count, 20));
            Bench.due("the first", x.toldAt(0), (long) count);
            Bench.due("the last that is kept", x.toldAt(Math.min(count, 20) - 1), (long) (count < 20 ? 1 : count - 19));
        }
        x.run(1, 3);
        Bench.due("19 told, and none of the run before", x.told() + " " + x.toldAt(18), "19 3");
        x.run(2, 3);
        Bench.due("19 told, the last another", x.told() + " " + x.toldAt(18), "19 5");
    }

    // ---- failures

    private static void failuresOfKind() {
        sentence("Failures: 'k' a value that it takes has not the kind that it needs");
        String[] others = {"l5", "n0"};
        for (String other : others) {
            for (String two : "+ - * / % <".split(" ")) {
                ends("i1 " + other + " " + two, "xk2");
                ends(other + " i1 " + two, "xk2");
                ends(other + " u " + two, "xk2");
            }
            ends(other + " w", "xk1");
        }
        for (String no : new String[] {"l5", "i0", "i1"}) {
            ends(no + " g0", "xk1");
            ends(no + " m0", "xk1");
            ends(no + " i1 p0", "xk2");
            ends(no + " n0 p0", "xk2");
        }
        ends(HALF + "g0", "xk7");
        for (String any : new String[] {"l5", "n0", "i0", "i7"}) {
            ends("n0 " + any + " p0 i3 r", "i3");
            ends(any + " t i3 r", "i3");
            ends(any + " d i3 r", "i3");
            ends(any + " " + any + " = d i3 r", "i3");
        }
        sentence("Failures: '0' both are integers and the second one of '/' or '%' is 0");
        for (String two : "/ %".split(" ")) {
            ends("i1 i0 " + two, "x02");
            ends("i0 i0 " + two, "x02");
            ends("i-2147483648 i0 " + two, "x02");
            ends("i0 i1 " + two + " r", "i0");
        }
        ends(HALF + "i0 / r", "fInfinity");
        ends("i1 " + HALF + "u - / r", "fInfinity");
        ends("i1 " + HALF + "u - % r", "fNaN");
    }

    private static void failuresInTheirOrder() {
        sentence("Failures: An instruction fails for the first of these reasons that applies");
        ends("n0 +", "xs1");
        ends("i0 /", "xs1");
        ends("l5 i0 /", "xk2");
        ends("l5 w", "xk1");
        ends("i1 p0", "xs1");
        Bench.due("too few values and 12 frames", inTheTwelfthFrame("c0"), "xs8");
        Bench.due("no object and 12 frames", inTheTwelfthFrame("i0 m0"), "xk9");
        Bench.due("no values and 12 frames", inTheTwelfthFrame("m0"), "xs8");
        Bench.due("no method and 12 frames", inTheTwelfthFrame("n0 m0"), "xm9");
        Bench.due("a method and 12 frames", inTheTwelfthFrame("n0 m1"), "xd9");
        Bench.due("a function and 12 frames", inTheTwelfthFrame("l0 c1"), "xd9");
        Bench.due("nothing of this", inTheTwelfthFrame("l0 r"), "i1");
        Tracewheel y = Bench.machine(1, "1: n0 d l0 i1 - u s0 z9 j0 " + EIGHT + "n0", "1: n0 d l0 i1 - u s0 z9 j0 " + SEVEN + "n0");
        y.run(0, 60);
        Bench.due("60 objects and a full stack", Bench.ending(y), "xs17");
        y.run(1, 60);
        Bench.due("60 objects and a stack with room", Bench.ending(y), "xo116");
        y.run(1, 59);
        Bench.due("59 objects and a stack with room", Bench.ending(y), "xe117");
    }

    /** The end of a run in whose twelfth frame these words are executed; they stand from index 8 on. */
    private static String inTheTwelfthFrame(String words) {
        Tracewheel x = Bench.machine(1, "1:", "1: l0 r");
        Bench.write(x, 0, "l0 i1 - u z7 c0 r d " + words);
        x.setMethod(0, 1, 1);
        x.run(0, 12);
        return Bench.ending(x);
    }

    private static void failuresChangeNothing() {
        sentence("Failures: An instruction that fails changes nothing, but counts as executed.");
        changesNothing("s1", 's');
        changesNothing("t", 's');
        changesNothing("r", 's');
        changesNothing("i8 n0 i7 p0 l0 i6 p0", 'k');
        changesNothing("i8 i0 /", '0');
        changesNothing("i8 i0 %", '0');
        changesNothing(TWO_TO_31 + "w", 'w');
        changesNothing("n0 g5", 'f');
        changesNothing("n0 m3", 'm');
        changesNothing("l5 i8 +", 'k');
        Tracewheel x = Bench.machine(0, "1: d", "1: i0 i0 z4 r l0 c0");
        Bench.due("the first instruction fails", x.run(0, 0), 1);
        Bench.due("instructions with the last one, in another frame", x.run(1, 0) + " " + Bench.ending(x), "6 xs0");
    }

    /** The words fail at the last of them; the handler tells its letter and then the locals. */
    private static void changesNothing(String words, char letter) {
        int length = words.trim().split(" +").length;
        Tracewheel x = Bench.machine(1, "1: i4 s1 l1 t " + words + " t l0 t l1 t l2 t i9 r");
        x.setHandler(0, length + 4);
        Bench.due("instructions with " + words, x.run(0, 10), 4 + length + 9);
        Bench.due("what the handler tells behind " + words, Bench.told(x) + " " + Bench.ending(x),
            "i4 i" + (int) letter + " i10 i4 n0 i9");
    }

    private static void handlersAtTheEdge() {
        sentence("Failures: the uppermost frame whose function has a handler goes on at this index, and the frames above it end");
        Tracewheel x = Bench.machine(0, "1: l0 c1 r t i0 r", "1: l0 c2 r t i1 r", "1: l0 c3 r t i2 r", "1: l0 d d t i3 r");
        x.run(0, 0);
        Bench.due("no handler", Bench.ending(x) + " " + Bench.told(x), "xs302 ");
        for (int function = 0; function < 4; function++) {
            x.setHandler(function, 3);
            x.run(0, 0);
            Bench.due("a handler of function " + function, Bench.ending(x) + " " + Bench.told(x), "i" + function + " i115");
        }
        Tracewheel y = Bench.machine(0, "1: l0 c1 r d i11 c1 r", "1: l0 i1 - u z6 c1 r");
        y.setHandler(0, 3);
        y.run(0, 20);
        Bench.due("frames that have ended leave room for 11", Bench.ending(y), "i0");
        y.setHandler(1, 6);
        Bench.due("instructions with a handler in the twelfth frame", y.run(1, 20) + " " + Bench.ending(y), "84 i100");
        sentence("Failures: with just the integer of the letter on its stack");
        Tracewheel z = Bench.machine(0, "1: " + EIGHT + "i1 " + SEVEN + "d d d d d d d t l0 r", "1: l1 z5 l0 r r i7 s1 d",
            "1: d " + Bench.times(38, "i1") + "r", "1: j39 t l0 r", "1: j39");
        z.setHandler(0, 9);
        z.run(0, 4);
        Bench.due("a full stack has room for seven", Bench.ending(z) + " " + Bench.told(z), "i4 i115");
        z.setHandler(1, 0);
        Bench.due("the first index", z.run(1, 4) + " " + Bench.ending(z), "9 i4");
        z.setHandler(2, 39);
        Bench.due("the last index", z.run(2, 4) + " " + Bench.ending(z), "2 i115");
        z.setHandler(3, 1);
        z.run(3, 4);
        Bench.due("an index without instruction that fails", Bench.ending(z) + " " + Bench.told(z), "i4 i101");
        z.setHandler(4, 39);
        Bench.due("an index without instruction that is the handler", z.run(4, 4) + " " + Bench.ending(z), "1000 xl439");
    }

    private static void linesOfFailures() {
        sentence("Failures: The line of a failure is 100 times the function plus the index of the instruction that failed");
        for (String last : new String[] {"d", "l0"}) {
            Tracewheel x = Bench.machine(0, "1: d", "1: l0 c7 r", "1:", "1:", "1:", "1:", "1:",
                "1: j39 " + Bench.times(38, "i1") + last);
            x.run(0, 0);
            Bench.due("the least line", x.line(), 0);
            x.run(7, 0);
            Bench.due("the greatest line", x.failure() + " " + x.line(), last.equals("d") ? "s 739" : "e 740");
            x.run(1, 0);
            Bench.due("the line of a frame above", x.failure() + " " + x.line(), last.equals("d") ? "s 739" : "e 740");
            x.run(2, 0);
            Bench.due("a function without instructions", x.failure() + " " + x.line(), "e 200");
        }
        sentence("Failures: .. or was to be executed");
        Tracewheel y = Bench.machine(0, "1: l0 c1 r", "1: j1 j0", "1: j0");
        y.run(0, 0);
        Bench.due("an instruction that was to be executed", y.failure() + " " + y.line(), "l 100");
        y.run(1, 0);
        Bench.due("with one instruction less", y.failure() + " " + y.line(), "l 100");
        y.run(2, 0);
        Bench.due("always the same one", y.failure() + " " + y.line(), "l 200");
    }

    // ---- caches

    /** Functions 0 to 4 hand an object of the class of their number to function 5, which has caches at 2, 4 and 7. */
    private static Tracewheel fiveKinds() {
        Tracewheel x = Bench.machine(5, "1: n0 d n0 c5 r", "1: n0 d n1 c5 r", "1: n0 d n2 c5 r", "1: n0 d n3 c5 r",
            "1: n0 d n4 c5 r", "1: l0 i1 p0 l0 g0 d l0 m0 r", "1: i3 r");
        for (int clazz = 0; clazz < 5; clazz++) {
            x.setMethod(clazz, 0, 6);
        }
        return x;
    }

    private static void all(Tracewheel x, String what, String want) {
        Bench.due(what + ", 'p'", Bench.cache(x, 5, 2), want);
        Bench.due(what + ", 'g'", Bench.cache(x, 5, 4), want);
        Bench.due(what + ", 'm'", Bench.cache(x, 5, 7), want);
    }

    private static void cachesKeepThreeKeys() {
        sentence("Caches: With keys, it is '1', '2' or '3' / if 3 keys are kept already, the cache gives up, 'x'");
        Tracewheel x = fiveKinds();
        all(x, "empty", "e 0 0");
        x.run(0, 0);
        all(x, "a miss", "1 0 1");
        x.run(0, 0);
        all(x, "a hit", "1 1 1");
        x.run(1, 0);
        all(x, "a second key", "2 1 2");
        x.run(2, 0);
        all(x, "a third key", "3 1 3");
        for (int i = 0; i < 3; i++) {
            x.run(i, 0);
        }
        all(x, "hits with three keys", "3 4 3");
        Bench.due("isSound() with three keys", x.isSound(), true);
        x.run(3, 0);
        all(x, "a fourth key", "x 4 4");
        for (int i = 0; i < 5; i++) {
            x.run(i, 0);
        }
        sentence("Caches: all keys are gone, and no hits and misses are counted behind this one any more");
        all(x, "given up", "x 4 4");
        Bench.due("isSound() with caches that have given up", x.isSound(), true);
    }

    private static void cachesOfMethods() {
        sentence("Throwing away: all caches of 'm' are empty that have not given up, but their hits and misses stay");
        Tracewheel x = fiveKinds();
        x.run(0, 0);
        x.run(1, 0);
        all(x, "two keys", "2 0 2");
        Bench.fails("a method by no name", IllegalArgumentException.class, () -> x.setMethod(4, 6, 6));
        all(x, "two keys still", "2 0 2");
        x.setMethod(4, 5, 6);
        Bench.due("'m' when a class gets a method", Bench.cache(x, 5, 7), "e 0 2");
        Bench.due("'p' and 'g'", Bench.cache(x, 5, 2) + ", " + Bench.cache(x, 5, 4), "2 0 2, 2 0 2");
        x.run(0, 0);
        Bench.due("'m', a miss again", Bench.cache(x, 5, 7), "1 0 3");
        Bench.due("'p' and 'g', hits", Bench.cache(x, 5, 2) + ", " + Bench.cache(x, 5, 4), "2 1 2, 2 1 2");
        x.run(1, 0);
        x.run(2, 0);
        Bench.due("'m' with three keys", Bench.cache(x, 5, 7), "3 0 5");
        x.setMethod(4, 5, 6);
        Bench.due("'m' that had three keys, by the method it has", Bench.cache(x, 5, 7), "e 0 5");
        for (int i = 0; i < 4; i++) {
            x.run(i, 0);
        }
        Bench.due("'m' given up", Bench.cache(x, 5, 7), "x 0 9");
        x.setMethod(4, 5, 6);
        Bench.due("'m' given up still", Bench.cache(x, 5, 7), "x 0 9");
        Tracewheel first = Bench.machine(1, "1: m0 r d n0 j0", "1: i3 r");
        first.setHandler(0, 2);
        first.setMethod(0, 0, 1);
        first.run(0, 0);
        Bench.due("an 'm' at the first index", Bench.ending(first) + ", " + Bench.cache(first, 0, 0), "i3, 1 0 1");
        first.setMethod(0, 1, 1);
        Bench.due("it is empty, too", Bench.cache(first, 0, 0), "e 0 1");
        sentence("Caches: keys: the shape of the object for 'g' and 'p', its class for 'm'");
        Tracewheel y = Bench.machine(1, "1: n0 c1 d n0 u i1 p0 c1 r", "1: l0 m0 d l0 i1 p1 l0 g1 r", "1: i3 r");
        y.setMethod(0, 0, 2);
        y.run(0, 0);
        Bench.due("one class, two shapes", Bench.cache(y, 1, 1) + ", " + Bench.cache(y, 1, 5) + ", " + Bench.cache(y, 1, 7),
            "1 1 1, 2 0 2, 2 0 2");
    }

    private static void cachesThatAreNotMet() {
        sentence("Caches: When such an instruction is executed outside traces and does not fail");
        Tracewheel x = Bench.machine(1, "1: n0 g0", "1: n0 m0", "1: i1 i1 p0", "1: p0", "1: l0 m5 r");
        for (int function = 0; function < 4; function++) {
            x.run(function, 0);
        }
        Bench.due("instructions that fail", Bench.cache(x, 0, 1) + ", " + Bench.cache(x, 1, 1) + ", " + Bench.cache(x, 2, 2)
            + ", " + Bench.cache(x, 3, 0), "e 0 0, e 0 0, e 0 0, e 0 0");
        Tracewheel f = Bench.withShapes57("n0 u i1 p1 u i1 p2 u i1 p3 u i1 p4 i1 p0");
        f.run(3, 0);
        Bench.due("'p' at 60 shapes", Bench.ending(f) + ", " + Bench.cache(f, 3, 12) + ", " + Bench.cache(f, 3, 14),
            "xf314, 1 0 1, e 0 0");
        Tracewheel y = Bench.machine(1, "1: n0 m0 r", "1: l0 m0 r");
        y.setMethod(0, 0, 1);
        y.run(0, 0);
        Bench.due("'m' in frames 1 to 11, and not in the twelfth", Bench.cache(y, 0, 1) + ", " + Bench.cache(y, 1, 1),
            "1 0 1, 1 9 1");
        Tracewheel z = Bench.machine(1, "1: n0 u i1 p0 s1 l1 g0 d l0 i1 - u s0 z15 j5 l0 r");
        z.run(0, 9);
        Bench.due("three rounds, one that is recorded, and five in the trace", Bench.cache(z, 0, 6), "1 3 1");
        sentence("Caches: Hits and misses are counted over all runs.");
        z.run(0, 9);
        Bench.due("one round, and eight in the trace", Bench.cache(z, 0, 6) + ", " + Bench.cache(z, 0, 3), "1 4 1, 1 1 1");
    }
}
