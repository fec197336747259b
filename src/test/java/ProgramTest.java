/** Programs without loops or with few rounds: instructions, failures, handlers, shapes and caches. */
public final class ProgramTest {
    private static final String TWO_TO_31 = "i2147483647 i1 + ";
    private static final String HALF = TWO_TO_31 + "u u + / ";
    private static final String ENDLESS = TWO_TO_31 + "u * u * u * u * u * u * ";
    private static final String UNDEFINED = ENDLESS + "u - ";
    private static final String MINUS_ZERO = "i0 i0 " + HALF + "- * ";

    public static void main(String[] args) {
        integers();
        floats();
        rests();
        equality();
        rounding();
        nullness();
        moving();
        callsAndMethods();
        objectsAndFields();
        failures();
        reasonsInOrder();
        limits();
        handlers();
        telling();
        caches();
        Bench.end();
    }

    private static void ends(String text, String want) {
        Bench.due(text, Bench.ends(text), want);
    }

    private static void integers() {
        ends("i7 i2 + r", "i9");
        ends("i7 i9 - r", "i-2");
        ends("i-7 i3 * r", "i-21");
        ends("i7 i2 / r", "i3");
        ends("i-7 i2 / r", "i-3");
        ends("i7 i-2 / r", "i-3");
        ends("i-7 i2 % r", "i-1");
        ends("i7 i-2 % r", "i1");
        ends("i-2147483648 i-1 % r", "i0");
        ends("i3 i4 < r", "i1");
        ends("i4 i4 < r", "i0");
        ends("i-2147483648 i2147483647 < r", "i1");
        ends("i2147483647 i0 + r", "i2147483647");
        ends("i2147483647 i1 + r", "f2.147483648E9");
        ends("i-2147483647 i1 - r", "i-2147483648");
        ends("i-2147483648 i1 - r", "f-2.147483649E9");
        ends("i46341 u * r", "f2.147488281E9");
        ends("i46340 u * r", "i2147395600");
        ends("i2147483647 u * r", "f" + 2147483647.0 * 2147483647.0);
        ends("i-2147483648 u * r", "f" + 2147483648.0 * 2147483648.0);
        ends("i-2147483648 i-1 / r", "f2.147483648E9");
        ends("i-2147483648 i-1 * r", "f2.147483648E9");
    }

    private static void floats() {
        ends(TWO_TO_31 + "i1 - r", "f2.147483647E9");
        ends(TWO_TO_31 + "i3 / r", "f" + 2147483648.0 / 3.0);
        ends(HALF + "r", "f0.5");
        ends("i3 " + HALF + "< r", "i0");
        ends(HALF + "i3 < r", "i1");
        ends(HALF + HALF + "< r", "i0");
        ends("i0 " + MINUS_ZERO + "< r", "i0");
        ends(ENDLESS + "u < r", "i0");
        ends(MINUS_ZERO + "r", "f-0.0");
        ends("i1 " + MINUS_ZERO + "/ r", "f-Infinity");
        ends(HALF + "i0 / r", "fInfinity");
        ends(ENDLESS + "r", "fInfinity");
        ends("i0 " + ENDLESS + "- r", "f-Infinity");
        ends(ENDLESS + "u + r", "fInfinity");
        ends(ENDLESS + "i-1 * r", "f-Infinity");
        ends(UNDEFINED + "r", "fNaN");
        ends(ENDLESS + "i0 * r", "fNaN");
        ends("i0 " + ENDLESS + "* r", "fNaN");
        ends(ENDLESS + "u / r", "fNaN");
        ends(MINUS_ZERO + "i0 / r", "fNaN");
        ends(UNDEFINED + "i1 + r", "fNaN");
        ends("i1 " + UNDEFINED + "/ r", "fNaN");
        ends(UNDEFINED + "i1 < r", "i0");
        ends("i1 " + UNDEFINED + "< r", "i0");
        ends("i1 " + ENDLESS + "< r", "i1");
        ends("i5 " + ENDLESS + "/ r", "f0.0");
        ends(TWO_TO_31 + "s1 i1 l1 / s2 l2 u * u * u * u * u * l2 l2 * / r", "f" + Math.scalb(1.0, -930));
        Tracewheel x = Bench.machine(0, "1: " + TWO_TO_31 + "s1 i1 l1 / u * u * u * u * s2 l2 u * l2 r");
        x.run(0, 0);
        Bench.due("the bits of 2 to the -496", x.result(), Double.doubleToLongBits(Math.scalb(1.0, -496)));
        leastFloats();
        Tracewheel y = Bench.machine(0, "1: " + UNDEFINED + "r");
        y.run(0, 0);
        Bench.due("the bits of no number", y.result(), 0x7ff8000000000000L);
        Tracewheel z = Bench.machine(0, "1: " + ENDLESS + "r", "1: " + MINUS_ZERO + "r");
        z.run(0, 0);
        Bench.due("the bits of the endless float", z.result(), 0x7ff0000000000000L);
        z.run(1, 0);
        Bench.due("the bits of -0.0", z.result(), 0x8000000000000000L);
    }

    /** 3 * 2 to the -992 halved as often as the argument says, down to floats with fewer digits, to the least one and to 0. */
    private static void leastFloats() {
        Tracewheel x = Bench.machine(0, "1: " + TWO_TO_31 + "u * u * u * u * u * s1 i3 l1 / s1 "
            + "l1 i2 / s1 l0 i1 - u s0 z29 j18 l1 r");
        for (int halvings : new int[] {1, 20, 29, 30, 31, 32, 33, 50, 75, 80, 81, 82, 83, 84, 85}) {
            double want = 3.0 / Math.scalb(1.0, 992);
            for (int i = 0; i < halvings; i++) {
                want = want / 2;
            }
            x.run(0, halvings);
            Bench.due("3 halved " + halvings + " times", Bench.ending(x), "f" + want);
            Bench.due("agreement", x.agrees(), true);
        }
    }

    private static void rests() {
        ends("i11 " + HALF + "* i2 % r", "f1.5");
        ends("i0 i11 - " + HALF + "* i2 % r", "f-1.5");
        ends("i11 " + HALF + "* i-2 % r", "f1.5");
        ends(HALF + "i7 % r", "f0.5");
        ends(HALF + "i-7 % r", "f0.5");
        ends(TWO_TO_31 + "i7 % r", "f" + 2147483648.0 % 7.0);
        ends(TWO_TO_31 + "u * u * u * i7 % r", "f" + Math.scalb(1.0, 248) % 7.0);
        ends(TWO_TO_31 + "u * u * u * u * u * i1000003 % r", "f" + Math.scalb(1.0, 992) % 1000003.0);
        ends(TWO_TO_31 + "u * u * u * u * u * i3 / i1000003 % r", "f" + Math.scalb(1.0, 992) / 3.0 % 1000003.0);
        ends(TWO_TO_31 + "i-1 * i2 % r", "f-0.0");
        ends(MINUS_ZERO + "i2 % r", "f-0.0");
        ends("i7 " + ENDLESS + "% r", "f7.0");
        ends("i7 i0 " + ENDLESS + "- % r", "f7.0");
        ends(ENDLESS + "i7 % r", "fNaN");
        ends(HALF + "i0 % r", "fNaN");
        ends(HALF + MINUS_ZERO + "% r", "fNaN");
        ends("i7 " + HALF + "% r", "f0.0");
        ends("i7 " + UNDEFINED + "% r", "fNaN");
    }

    private static void equality() {
        ends("i4 i4 = r", "i1");
        ends("i4 i5 = r", "i0");
        ends("i1 " + HALF + HALF + "+ = r", "i1");
        ends("i0 " + MINUS_ZERO + "= r", "i1");
        ends(UNDEFINED + "u = r", "i0");
        ends(ENDLESS + "u = r", "i1");
        ends("n0 u = r", "i1");
        ends("n0 n0 = r", "i0");
        ends("l5 l4 = r", "i1");
        ends("l5 i0 = r", "i0");
        ends("n0 i0 = r", "i0");
        ends("n0 l5 = r", "i0");
        ends(MINUS_ZERO + "l5 = r", "i0");
    }

    private static void rounding() {
        ends("i-5 w r", "i-5");
        ends(HALF + "w r", "i0");
        ends("i0 " + HALF + "- w r", "i0");
        ends("i1 " + HALF + "+ w r", "i2");
        ends("i2 " + HALF + "+ w r", "i2");
        ends("i3 " + HALF + "+ w r", "i4");
        ends("i-1 " + HALF + "- w r", "i-2");
        ends("i-2 " + HALF + "- w r", "i-2");
        ends("i2 " + HALF + HALF + "* + w r", "i2");
        ends("i3 " + HALF + HALF + "* - w r", "i3");
        ends("i-3 " + HALF + HALF + "* + w r", "i-3");
        ends("i2147483647 " + HALF + HALF + "* + w r", "i2147483647");
        ends("i-2147483648 " + HALF + "- w r", "i-2147483648");
        ends(MINUS_ZERO + "w r", "i0");
        ends("i2147483647 " + HALF + "+ w r", "xw9");
        ends("i-2147483648 " + HALF + "- i1 - w r", "xw11");
        ends(TWO_TO_31 + "w r", "xw3");
        ends(UNDEFINED + "w r", "xw17");
        ends(ENDLESS + "w r", "xw15");
    }

    private static void nullness() {
        String jump = " z%d i1 r i2 r";
        String[] nulls = {"i0", "l5", MINUS_ZERO.trim(), "i2147483647 i1 + u -", "i3 i3 -"};
        String[] others = {"i1", "i-2147483648", "n0", HALF.trim(), UNDEFINED.trim(), ENDLESS.trim(), "l0"};
        for (String text : nulls) {
            ends(text + String.format(jump, text.split(" ").length + 3), "i2");
        }
        for (String text : others) {
            ends(text + String.format(jump, text.split(" ").length + 3), "i1");
        }
    }

    private static void moving() {
        ends("i4 s5 i6 l5 r", "i4");
        ends("l0 r", "i10");
        ends("l1 r", "n0");
        ends("i4 i5 d r", "i4");
        ends("i4 u + r", "i8");
        ends("j3 i1 r i2 r", "i2");
        ends("n0 r", "o0");
        ends("n0 d n1 r", "o1");
    }

    private static void callsAndMethods() {
        Tracewheel x = Bench.machine(1, "1: i7 i8 i9 c1 r", "3: l0 t l1 t l2 t l3 t l0 l1 - l2 + r", "0: i5",
            "1: c2 r", "1: n0 u i4 p1 m2 r", "1: l0 g1 l1 t r");
        Bench.due("instructions with a call", x.run(0, 0), 19);
        Bench.due("the parameters in their order", Bench.told(x), "i7 i8 i9 n0");
        Bench.due("what the call gives", Bench.ending(x), "i8");
        x.run(3, 0);
        Bench.due("a function that runs out of code", Bench.ending(x), "xe201");
        x.setMethod(0, 2, 5);
        x.run(4, 0);
        Bench.due("a method gets the object", Bench.ending(x), "i4");
        Bench.due("a method gets nothing else", Bench.told(x), "n0");
        Tracewheel z = Bench.machine(0, "1: c1 d i9 l0 c2 r", "0: l0 t l5 t i5 s0 i6 s5 i1 r", "2: l0 t l1 t l2 t l5 t c1 r");
        z.run(0, 4);
        Bench.due("the other locals are nothing at first", Bench.told(z), "n0 n0 i9 i4 n0 n0 n0 n0");
        Tracewheel y = Bench.machine(0, "2: l0 t l1 r");
        y.run(0, 3);
        Bench.due("the other parameters of the first frame", Bench.told(y) + " " + Bench.ending(y), "i3 n0");
    }

    private static void objectsAndFields() {
        Tracewheel x = Bench.machine(2, "1: n1 s1 l1 l0 p4 n1 s2 l2 l1 p4 l2 l5 p0 l1 i3 p4 l1 l0 i2147483647 + p2 l2 g4 r");
        x.run(0, 1);
        Bench.due("a field with an object", Bench.ending(x), "o0");
        Bench.due("the objects", x.objects(), 2);
        Bench.due("shapes: two of the classes and three that follow", x.shapes(), 5);
        Bench.due("the shapes of the objects", x.shapeOf(0) + " " + x.shapeOf(1), "4 3");
        Bench.due("the fields of the first", x.field(0, 4) + " " + x.field(0, 2), "3 " + Double.doubleToLongBits(2147483648.0));
        Bench.due("the fields of the second", x.field(1, 4) + " " + x.field(1, 0), "0 0");
        Bench.due("the order of fields", x.fieldAt(3, 0) + " " + x.fieldAt(3, 1) + " " + x.fieldAt(4, 1), "4 0 2");
        Bench.due("what follows", x.nextShape(1, 4) + " " + x.nextShape(2, 0) + " " + x.nextShape(2, 2), "2 3 4");
    }

    private static void failures() {
        ends("i1", "xe1");
        ends("j39", "xe39");
        for (String taker : "s0 u d + - * / % < w = z0 g0 p0 m0 r t".split(" ")) {
            ends(taker, "xs0");
        }
        for (String taker : "+ - * / % < = p0".split(" ")) {
            ends("n0 " + taker, "xs1");
        }
        for (String pusher : "i1 k0 l0 u n0".split(" ")) {
            ends("i1 i1 i1 i1 i1 i1 i1 i1 " + pusher, "xs8");
        }
        ends("i1 i1 i1 i1 i1 i1 i1 i1 + + + + + + + r", "i8");
        for (String taker : "+ - * / % <".split(" ")) {
            ends("n0 i0 " + taker, "xk2");
            ends("i0 l5 " + taker, "xk2");
        }
        ends("n0 w", "xk1");
        ends("l5 w", "xk1");
        ends("i0 g0", "xk1");
        ends("l5 m0", "xk1");
        ends("i0 n0 p0", "xk2");
        ends("i1 i0 /", "x02");
        ends("i1 i0 %", "x02");
        ends("n0 g0", "xf1");
        ends("n0 u i1 p0 g1", "xf4");
        ends("n0 m0", "xm1");
    }

    private static void reasonsInOrder() {
        ends("l5 i0 /", "xk2");
        ends("i0 /", "xs1");
        Tracewheel x = Bench.machine(1, "1: n0 m0", "1: l0 c1 r");
        x.setMethod(0, 1, 0);
        x.run(0, 0);
        Bench.due("a class without the method", Bench.ending(x), "xm1");
        Tracewheel full = Bench.machine(0, "1: l0 i1 i1 i1 i1 i1 i1 i1 c1 r", "0: i5 r", "1: l0 i1 i1 i1 i1 i1 i1 c1 r",
            "1: i1 i1 i1 i1 i1 i1 i1 i1 c4 r", "1: l0 r");
        Bench.due("'r' to a full stack", full.run(0, 0), 11);
        Bench.due("'r' to a full stack", Bench.ending(full), "xs101");
        full.run(2, 0);
        Bench.due("'r' to a stack with room", Bench.ending(full), "i5");
        full.run(3, 0);
        Bench.due("'c' makes room itself", Bench.ending(full), "i1");
    }

    private static void limits() {
        Tracewheel x = Bench.machine(2, "1: l0 c0 r", "1: n0 d j0", "1: j0", "1: n1 m0 r", "1: l0 m0 r");
        Bench.due("instructions with 12 frames", x.run(0, 0), 24);
        Bench.due("a frame too many", Bench.ending(x), "xd1");
        Bench.due("instructions with 60 objects", x.run(1, 0), 181);
        Bench.due("an object too many", Bench.ending(x), "xo100");
        Bench.due("objects", x.objects(), 60);
        Bench.due("the last object", x.shapeOf(59), 0);
        Bench.due("instructions without end", x.run(2, 0), 1000);
        Bench.due("an instruction too many", Bench.ending(x), "xl200");
        Bench.due("instructions without objects", x.run(3, 0), 2);
        x.setMethod(1, 0, 4);
        Bench.due("instructions with 12 frames of methods", x.run(3, 0), 2 + 2 * 11);
        Bench.due("a frame of a method too many", Bench.ending(x), "xd401");
        thousand();
    }

    /** 3 * 332 + 4 instructions would be executed: the failure comes ahead of the last ones. */
    private static void thousand() {
        Tracewheel x = Bench.machine(0, "1: l0 z4 i0 z0 i1 r", "1: l0 i1 - u s0 z7 j0 i5 r");
        x.setHandler(0, 0);
        Bench.due("a handler does not help at 1000", x.run(0, 1), 1000);
        Bench.due("its failure", Bench.ending(x), "xl0");
        Bench.due("1000 instructions and no more", x.run(1, 143), 7 * 142 + 6);
        Bench.due("an end without value at 1000", Bench.ending(x), "xl107");
        Bench.due("998 instructions and two", x.run(1, 142), 7 * 141 + 8);
        Bench.due("an end with a value", Bench.ending(x), "i5");
    }

    private static void handlers() {
        Tracewheel x = Bench.machine(0, "1: i9 s1 i1 i2 l0 c1 r l1 t r", "1: i3 l0 c2 r t r", "1: i1 i0 / r", "1: d");
        x.run(0, 0);
        Bench.due("no handler", Bench.ending(x), "x0202");
        x.setHandler(0, 7);
        Bench.due("instructions with a handler", x.run(0, 0), 15);
        Bench.due("the handler's stack and locals", Bench.told(x) + " " + Bench.ending(x), "i9 i48");
        x.setHandler(1, 5);
        Bench.due("instructions with a handler above", x.run(0, 0), 14);
        Bench.due("the uppermost handler", Bench.told(x) + " " + Bench.ending(x), " i48");
        x.setHandler(1, 4);
        x.run(0, 0);
        Bench.due("a handler that fails goes on with itself", Bench.ending(x), "xl104");
        x.setHandler(3, 39);
        Bench.due("a handler without instruction", x.run(3, 0), 1000);
        Bench.due("its failure", Bench.ending(x), "xl339");
    }

    private static void telling() {
        Tracewheel x = Bench.machine(1, "1: l0 t l0 i1 - u s0 z9 j0 r n0 t l5 t " + HALF + "t l0 r");
        x.run(0, 20);
        Bench.due("20 are kept", x.told(), 20);
        Bench.due("the first and the last", x.toldAt(0) + " " + x.toldAt(19), "20 1");
        x.run(0, 30);
        Bench.due("no more than 20 are kept", x.told(), 20);
        Bench.due("the first and the last of them", x.toldAt(0) + " " + x.toldAt(19), "30 11");
        Tracewheel y = Bench.machine(1, "1: n0 t l5 t " + HALF + "t l0 t i1 i0 /");
        y.run(0, -3);
        Bench.due("all kinds", Bench.told(y), "o0 n0 f0.5 i-3");
        Bench.due("told ahead of a failure", Bench.ending(y), "x016");
        Bench.due("the bits of a float", y.toldAt(2), Double.doubleToLongBits(0.5));
    }

    private static void caches() {
        Tracewheel x = Bench.machine(5, "1: n0 c1 d r", "1: l0 i1 p0 l0 g0 d l0 m0 r", "1: i3 r", "1: n1 c1 d r",
            "1: n2 c1 d r", "1: n3 c1 d r", "1: n4 m0 r");
        for (int i = 0; i < 5; i++) {
            x.setMethod(i, 0, 2);
        }
        x.run(0, 0);
        Bench.due("a miss", Bench.cache(x, 1, 2) + " " + Bench.cache(x, 1, 4) + " " + Bench.cache(x, 1, 7), "1 0 1 1 0 1 1 0 1");
        x.run(0, 0);
        Bench.due("a hit", Bench.cache(x, 1, 2) + " " + Bench.cache(x, 1, 4) + " " + Bench.cache(x, 1, 7), "1 1 1 1 1 1 1 1 1");
        x.run(3, 0);
        x.run(4, 0);
        x.run(3, 0);
        Bench.due("three keys", Bench.cache(x, 1, 2) + " " + Bench.cache(x, 1, 4) + " " + Bench.cache(x, 1, 7), "3 2 3 3 2 3 3 2 3");
        Bench.due("sound with three keys", x.isSound(), true);
        x.run(5, 0);
        Bench.due("given up", Bench.cache(x, 1, 2) + " " + Bench.cache(x, 1, 4) + " " + Bench.cache(x, 1, 7), "x 2 4 x 2 4 x 2 4");
        x.run(0, 0);
        Bench.due("counted no more", Bench.cache(x, 1, 2) + " " + Bench.cache(x, 1, 4) + " " + Bench.cache(x, 1, 7), "x 2 4 x 2 4 x 2 4");
        x.run(6, 0);
        Bench.due("another cache of a method", Bench.cache(x, 6, 1), "1 0 1");
        x.setMethod(1, 4, 2);
        Bench.due("emptied by a method", Bench.cache(x, 6, 1), "e 0 1");
        Bench.due("given up all the same", Bench.cache(x, 1, 7), "x 2 4");
        x.run(6, 0);
        Bench.due("a miss once more", Bench.cache(x, 6, 1), "1 0 2");
        keysAndFailures();
    }

    private static void keysAndFailures() {
        Tracewheel x = Bench.machine(1, "1: n0 s1 l1 i1 p0 l1 i2 p0 l1 l0 z13 g1 d l1 g0 r", "1: n0 s1 l0 i2 < z10 l1 i1 p0 j10 l1 i1 p1 l1 m3");
        x.run(0, 0);
        Bench.due("'p' keeps the shape ahead of it", Bench.cache(x, 0, 4) + " " + Bench.cache(x, 0, 7), "1 0 1 1 0 1");
        x.run(0, 1);
        Bench.due("an instruction that fails is not counted", Bench.cache(x, 0, 11) + " " + Bench.ending(x), "e 0 0 xf11");
        x.run(1, 1);
        x.run(1, 2);
        x.run(1, 2);
        Bench.due("keys are shapes", Bench.cache(x, 1, 12), "2 1 2");
        Bench.due("a method that fails is not counted", Bench.cache(x, 1, 14), "e 0 0");
        Bench.due("'g', 'p' leave the caches of others", Bench.cache(x, 0, 7), "1 1 1");
    }
}
