/** Heads, recording, guards, traces and how they are thrown away. */
public final class TraceTest {
    private static final String SUM = "1: i0 s1 l1 l0 + s1 l0 i1 - u s0 z13 j2 l1 r";
    private static final String PARITY = "1: l0 i2 % z6 i7 t l0 i1 - u s0 z13 j0 l0 r";
    private static final String CELL = "1: k0 d l0 i1 - u s0 z9 j0 l0 r";

    public static void main(String[] args) {
        heads();
        jumpsThatAreNoHeads();
        limitsOfHeads();
        thirtySteps();
        brokenOffByOtherHeads();
        brokenOffByTheSameHeadInAnotherFrame();
        brokenOffByReturning();
        brokenOffByFailure();
        guardsOfTwoValues();
        guardsOfOne();
        guardsOfObjects();
        guardsOverFrames();
        noFactsAtFirst();
        sideTraces();
        guardOfASideTrace();
        guardsAreBarred();
        tracesWithoutEnd();
        leftAheadOfFailures();
        twentyTraces();
        leastLatelyEntered();
        neverTheOwnTree();
        aTraceThatIsTooLong();
        cellsThrowAway();
        methodsThrowAway();
        sharesAndMeans();
        Bench.end();
    }

    private static void heads() {
        Tracewheel x = Bench.machine(0, SUM);
        x.run(0, 3);
        Bench.due("two jumps back", Bench.head(x, 0, 2), "2");
        x.run(0, 2);
        Bench.due("broken off by the run's end", Bench.head(x, 0, 2), "0");
        x.run(0, 4);
        Bench.due("broken off twice", Bench.head(x, 0, 2), "0 barred");
        x.run(0, 9);
        Bench.due("barred, and counted still", Bench.head(x, 0, 2), "8 barred");
        Bench.due("no trace", x.traces(), 0);
        Bench.due("no instruction in traces", x.inTraces(), 0);
        Tracewheel y = Bench.machine(0, SUM);
        y.run(0, 9);
        Bench.due("the counter behind recording", Bench.head(y, 0, 2), "3");
        Bench.due("the trace", Bench.lines(y, 0), "2 3 4 5 6 7 8 9 10 11 12");
        Bench.due("its guards", Bench.guards(y, 0), "2k 2k 2o 6o 9t");
        Bench.due("its entries", y.begun(0), 5);
        Bench.due("its instructions", y.inTraces(), 53);
        Bench.due("its root", y.rootOf(0), 0);
        Bench.due("the end", Bench.ending(y), "i45");
    }

    private static void jumpsThatAreNoHeads() {
        Tracewheel x = Bench.machine(0, "1: l0 i1 - u s0 i0 z7 z9 j0 i1 r");
        x.run(0, 2);
        Bench.due("a jump ahead has no head", x.counter(0, 7) + " " + x.counter(0, 9), "0 0");
        Bench.due("the jump back has", x.counter(0, 0), 1);
        Tracewheel y = Bench.machine(0, "1: l0 i1 - u s0 i0 = z0 i1 r");
        y.run(0, 3);
        Bench.due("a 'z' that goes back", y.counter(0, 0), 2);
        Tracewheel z = Bench.machine(0, "1: j0");
        z.setLimits(50, 1, 10);
        z.run(0, 0);
        Bench.due("a jump to itself", Bench.lines(z, 0) + " " + z.counter(0, 0), "0 50");
        Tracewheel w = Bench.machine(0, "1: i0 i0 i0 z3");
        w.setLimits(50, 1, 10);
        w.run(0, 0);
        Bench.due("a 'z' that goes to itself", w.counter(0, 3) + " " + Bench.ending(w), "3 xs3");
    }

    private static void limitsOfHeads() {
        Tracewheel x = Bench.machine(0, SUM);
        x.setLimits(5, 2, 80);
        x.run(0, 6);
        Bench.due("one jump is left to close a trace", x.traces() + " " + Bench.head(x, 0, 2), "0 0");
        x.run(0, 7);
        Bench.due("five and one to close", x.traces() + " " + Bench.head(x, 0, 2), "1 5");
        Tracewheel y = Bench.machine(0, SUM);
        y.run(0, 3);
        y.setLimits(2, 2, 80);
        y.run(0, 3);
        Bench.due("a limit that was reached before", y.traces() + " " + Bench.head(y, 0, 2), "1 3");
    }

    private static String padded(int pads) {
        StringBuilder text = new StringBuilder("1: l0 i1 - u s0 z" + (7 + pads));
        for (int i = 0; i < pads; i++) {
            text.append(" j").append(7 + i);
        }
        return text.append(" j0 l0 r").toString();
    }

    private static void thirtySteps() {
        Tracewheel x = Bench.machine(0, padded(23));
        x.run(0, 10);
        Bench.due("30 steps", x.traces() + " " + x.steps(0) + " " + Bench.head(x, 0, 0), "1 30 3");
        Tracewheel y = Bench.machine(0, padded(24));
        y.run(0, 5);
        Bench.due("31 steps, and the jump behind them", y.traces() + " " + Bench.head(y, 0, 0), "0 1");
        y.run(0, 6);
        Bench.due("31 steps once more", y.traces() + " " + Bench.head(y, 0, 0), "0 3 barred");
        y.run(0, 10);
        Bench.due("barred", y.traces() + " " + Bench.head(y, 0, 0), "0 12 barred");
    }

    private static void brokenOffByOtherHeads() {
        Tracewheel x = Bench.machine(0, "1:", "1: l0 z5 i0 s0 j0 i1 r");
        Bench.write(x, 0, "i1 c1 d l0 i1 - u s0 z10 j0 l0 r");
        x.run(0, 4);
        Bench.due("broken off by another head", Bench.head(x, 0, 0) + ", " + Bench.head(x, 1, 0), "0, 1");
        x.run(0, 10);
        Bench.due("broken off twice by another head", Bench.head(x, 0, 0) + ", " + Bench.head(x, 1, 0), "6 barred, 8 barred");
        Bench.due("no trace", x.traces(), 0);
        Tracewheel y = Bench.machine(0, "1:", "1: l0 z7 l0 i1 - s0 j0 i1 r");
        Bench.write(y, 0, "i5 c1 d l0 i1 - u s0 z10 j0 l0 r");
        y.run(0, 9);
        Bench.due("the other head's trace is entered", y.traces() + " " + y.rootOf(0) + " " + y.lineAt(0, 0), "1 0 100");
        Bench.due("the outer head is barred", Bench.head(y, 0, 0), "2 barred");
        Bench.due("agreement", y.agrees(), true);
    }

    private static void brokenOffByTheSameHeadInAnotherFrame() {
        Tracewheel x = Bench.machine(0, "1: i5 s1 l0 z7 i0 c0 d l1 i1 - u s1 z14 j2 l1 r");
        x.setLimits(5, 2, 80);
        x.run(0, 1);
        Bench.due("the same head in another frame", x.traces() + " " + Bench.head(x, 0, 2), "0 14 barred");
    }

    /** A later call makes a frame at the same depth, but it is another one. */
    private static void brokenOffByReturning() {
        Tracewheel x = Bench.machine(0, "1:", "1: l0 z5 i0 s0 j0 i1 r");
        Bench.write(x, 0, "l0 c1 d l0 c1 d l0 c1 d l0 c1 d i1 r");
        x.run(0, 1);
        Bench.due("broken off by the end of the frame", x.traces() + " " + Bench.head(x, 1, 0), "0 1");
        x.run(0, 1);
        Bench.due("broken off twice by the end of the frame", x.traces() + " " + Bench.head(x, 1, 0), "0 2 barred");
    }

    private static void brokenOffByFailure() {
        Tracewheel x = Bench.machine(0, "1: l0 i3 - z12 l0 i1 - u s0 z11 j0 r i1 i0 / j4");
        x.setHandler(0, 4);
        x.run(0, 6);
        Bench.due("broken off by a failure with a handler", x.traces() + " " + Bench.head(x, 0, 0), "0 2");
        Bench.due("its end", Bench.ending(x), "i48");
        Tracewheel y = Bench.machine(0, "1: i7 l0 / d l0 i1 - s0 j0");
        y.run(0, 3);
        Bench.due("broken off by the last failure", Bench.head(y, 0, 0) + " " + Bench.ending(y), "0 x02");
        y.run(0, 3);
        Bench.due("broken off by it again", Bench.head(y, 0, 0), "0 barred");
    }

    /** The guards of the trace of a loop with the given body; the guards of what counts the loop down come behind them. */
    static String guardsOf(String body, int classes, String... others) {
        int length = body.isEmpty() ? 0 : body.trim().split(" +").length;
        String before = classes > 0 ? "n0 u i4 p0 u s2 s3 " : "";
        int first = classes > 0 ? 7 : 0;
        int end = first + length + 7;
        String[] functions = new String[others.length + 1];
        functions[0] = "1:";
        System.arraycopy(others, 0, functions, 1, others.length);
        Tracewheel x = Bench.machine(classes, functions);
        if (classes > 0 && others.length > 0) {
            x.setMethod(0, 0, 1);
        }
        Bench.write(x, 0, before + body + " l0 i1 - u s0 z" + end + " j" + first + " l0 r");
        x.run(0, 9);
        Bench.due("agreement with " + body, x.agrees(), true);
        return x.traces() == 1 ? Bench.guards(x, 0) : x.traces() + " traces";
    }

    private static void guards(String body, String want) {
        Bench.due("guards of " + body, guardsOf(body, 0), want);
    }

    private static void guardsOfTwoValues() {
        guards("", "2k 2o 5t");
        guards("i2 i3 + t", "6k 6o 9t");
        guards("i2 k3 - i4 < d", "8k 8o 11t");
        guards("i2 i3 / i4 % w i4 = d", "11k 11o 14t");
        guards("i2147483647 u * d", "6k 6o 9t");
        guards("i3 l0 < d", "2k 6o 9t");
        guards("i3 l0 = d", "2k 6o 9t");
        guards("i3 l0 * d", "2k 2o 6o 9t");
        guards("l0 l0 = d", "2k 6o 9t");
        guards("l0 u + d", "2k 2o 6o 9t");
        guards("k1 l0 % d", "2k 2z 6o 9t");
        guards("i8 l0 / d", "2k 2z 2o 6o 9t");
        guards("l0 i8 / d", "2k 2o 6o 9t");
        guards("l0 i8 % d", "2k 6o 9t");
        guards("i8 l0 % i8 l0 / + d", "2k 2z 5o 6o 10o 13t");
        guards("l5 l4 = d", "2k 2k 6k 6o 9t");
        guards("l5 l5 = d", "2k 6k 6o 9t");
        guards("i2147483647 i1 + l0 + d", "4k 8o 11t");
        guards("i2147483647 i1 + l0 / d", "4k 8o 11t");
        guards("l0 i2147483647 + i1 + d", "2k 2o 8o 11t");
    }

    private static void guardsOfOne() {
        guards("l0 w d", "1k 5o 8t");
        guards("i3 w z0 ", "5k 5o 8t");
        guards("l0 w w i1 + d", "1k 4o 8o 11t");
        guards("l0 z9", "1t 4k 4o 7t");
        guards("l0 l0 z9 d", "2t 6k 6o 9t");
        guards("l0 z9 i8 l0 / d", "1t 4k 4o 8o 11t");
        guards("l0 i1 = z5 j5", "2k 3t 6o 9t");
        guards("i4 z9", "4k 4o 7t");
        guards("i4 i5 < z0", "6k 6o 9t");
        guards("l5 i0 = z4", "2k 3t 6k 6o 9t");
        guards("l5 i1 = d l5 z6", "2k 8k 8o 11t");
        guards("l5 z2", "1t 4k 4o 7t");
        guards("l0 u s4 l4 + l4 i1 < d d", "4k 4o 12o 15t");
    }

    private static void objects(String body, String want) {
        Bench.due("guards of " + body, guardsOf(body, 1, "1: l0 g0 r"), want);
    }

    private static void guardsOfObjects() {
        objects("n0 d", "4k 4o 7t");
        objects("l2 g0 d", "1s 5k 5o 8t");
        objects("l2 g0 i1 + d", "1s 3k 3o 7k 7o 10t");
        objects("l2 g0 l2 g0 + d", "1s 4k 4k 4o 8k 8o 11t");
        objects("l2 g0 l3 g0 = d", "1s 3s 4k 4k 8k 8o 11t");
        objects("l2 i1 p0", "2s 5k 5o 8t");
        objects("l2 i1 p0 l2 i2 p0", "2s 8k 8o 11t");
        objects("n0 u i1 p0 g0 d", "8k 8o 11t");
        objects("n0 i1 p1", "5k 5o 8t");
        objects("l2 g0 d l2 i1 p0 l2 g0 d", "1s 11k 11o 14t");
        objects("l2 g0 d n0 i1 p1 l2 g0 d", "1s 7s 11k 11o 14t");
        objects("l2 g0 d n0 u i1 p1 g1 d", "1s 11k 11o 14t");
        objects("l2 g0 d n0 i1 p1 l2 i0 = d", "1s 12k 12o 15t");
        objects("l2 l5 = d l2 z0", "2k 2k 8k 8o 11t");
        objects("l2 z0 l2 l5 = d", "1t 4k 4k 8k 8o 11t");
        objects("l2 m0 d", "1s 8k 8o 11t");
        objects("n0 u i1 p0 m0 d", "11k 11o 14t");
        objects("n0 i0 = d", "6k 6o 9t");
        objects("n0 z0", "4k 4o 7t");
    }

    private static void over(String body, String other, String want) {
        Bench.due("guards of " + body + " with " + other, guardsOf(body, 0, other), want);
    }

    private static void guardsOverFrames() {
        over("l0 c1 d", "1: l0 i1 + r", "4k 4o 9o 12t");
        over("c1 d", "0: l5 z2 i5 r", "8k 8o 11t");
        over("i3 c1 i4 + d", "1: l0 r", "9k 9o 12t");
        over("l0 i3 c1 d", "2: l1 l0 < r", "5k 10o 13t");
        over("c1 i1 + d", "0: i8 r", "8k 8o 11t");
        over("l0 c1 d", "1: l1 l2 = r", "9k 9o 12t");
        over("l0 c1 d", "1: l1 l2 = z5 i1 r", "5t 11k 11o 14t");
    }

    /** What is the same value when recording begins need not be so in the next round. */
    private static void noFactsAtFirst() {
        Tracewheel x = Bench.machine(0, "1: l0 s4 l4 i1 + d l0 i1 - u s0 z13 j2 l4 r");
        x.run(0, 9);
        Bench.due("a value in two locals", Bench.guards(x, 0), "2k 2o 6k 6o 9t");
        Tracewheel y = Bench.machine(0, "1: i0 s1 l0 s2 l1 l2 s1 z8 j10 i7 t l0 i1 - u s0 z18 i0 s2 j4 l1 r");
        y.run(0, 9);
        Bench.due("agreement with values that part", y.agrees(), true);
    }

    private static void sideTraces() {
        Tracewheel x = Bench.machine(0, PARITY);
        Bench.due("instructions", x.run(0, 20), 241);
        Bench.due("the root", Bench.lines(x, 0) + ": " + Bench.guards(x, 0), "0 1 2 3 4 5 6 7 8 9 10 11 12: 2k 3t 8o 11t");
        Bench.due("the side trace", Bench.lines(x, 1) + ": " + Bench.guards(x, 1), "3 6 7 8 9 10 11 12: 0t 3k 3o 6t");
        Bench.due("traces", x.traces(), 2);
        Bench.due("roots", x.rootOf(0) + " " + x.rootOf(1), "0 0");
        Bench.due("the side trace of the guard", x.sideOf(0, 1), 1);
        Bench.due("exits", x.exits(0, 0) + " " + x.exits(0, 1) + " " + x.exits(0, 2) + " " + x.exits(0, 3), "0 8 0 1");
        Bench.due("begun", x.begun(0) + " " + x.begun(1), "16 6");
        Bench.due("in traces", x.inTraces(), 174);
        Bench.due("told", Bench.told(x), "i7 i7 i7 i7 i7 i7 i7 i7 i7 i7");
        Bench.due("the steps of both", x.codeSize(), 21);
        Bench.due("agreement", x.agrees() && x.isSound(), true);
        Tracewheel y = Bench.machine(0, PARITY);
        y.setLimits(3, 20, 80);
        y.run(0, 30);
        Bench.due("too few exits", y.traces() + " " + y.exits(0, 1), "1 13");
        y.setLimits(3, 1, 80);
        y.run(0, 5);
        Bench.due("the next exit is enough", y.traces(), 2);
    }

    /** The rests by 3 make a tree whose side trace has a side trace of its own. */
    private static void guardOfASideTrace() {
        Tracewheel x = Bench.machine(0, "1: l0 i3 % s1 l1 i1 = z12 i1 t j18 j18 l1 i2 = z18 i2 t l0 i1 - u s0 z25 j0 l0 r");
        x.run(0, 40);
        Bench.due("three traces", x.traces(), 3);
        Bench.due("roots", x.rootOf(0) + " " + x.rootOf(1) + " " + x.rootOf(2), "0 0 0");
        int parent = 0;
        for (int trace = 0; trace < 2; trace++) {
            for (int guard = 0; guard < x.guards(trace); guard++) {
                if (x.exits(trace, guard) > 1) {
                    Bench.due("a chain of side traces", x.sideOf(trace, guard), trace + 1);
                    parent++;
                }
            }
        }
        Bench.due("guards with side traces", parent, 2);
        Bench.due("agreement", x.agrees(), true);
    }

    private static void guardsAreBarred() {
        Tracewheel x = Bench.machine(0, "1: l0 i1 - u s0 z7 j0 i9 i5 r");
        for (int i = 0; i < 8; i++) {
            x.run(0, 9);
        }
        Bench.due("a side trace that the run's end breaks off", x.traces(), 1);
        Bench.due("the exits go on", x.exits(0, 2), 8);
        Bench.due("only the first jump of a run is outside", x.begun(0), 5 + 7 * 8);
        Tracewheel y = Bench.machine(0, "1: l0 i2 % z5 j9 i1 k3 / d l0 i1 - u s0 z16 j0 l0 r");
        y.setHandler(0, 9);
        y.run(0, 10);
        Bench.due("broken off by a failure", y.traces() + " " + y.exits(0, 1), "1 3");
        Bench.due("no tree has a step with the cell", y.setCell(3, 1), 0);
        y.run(0, 9);
        Bench.due("broken off once", y.traces(), 2);
        Tracewheel z = Bench.machine(0, "1: l0 i2 % z5 j9 i1 k3 / d l0 i1 - u s0 z16 j0 l0 r");
        z.setHandler(0, 9);
        z.run(0, 20);
        z.setCell(3, 1);
        z.run(0, 20);
        Bench.due("broken off twice", z.traces(), 1);
    }

    private static void tracesWithoutEnd() {
        Tracewheel x = Bench.machine(0, "1: j0");
        Bench.due("instructions", x.run(0, 0), 1000);
        Bench.due("in traces", x.inTraces(), 996);
        Bench.due("begun", x.begun(0), 997);
        Bench.due("the end", Bench.ending(x), "xl0");
        Bench.due("share", x.tracedShare(), 996.0f / 1000.0f);
        Bench.due("mean", x.meanGuards(), 0.0);
        x.run(0, 0);
        Bench.due("begun by the first jump", x.begun(0) + " " + x.inTraces(), "1997 999");
    }

    private static void leftAheadOfFailures() {
        Tracewheel x = Bench.machine(0, "1: i100 l0 / t l0 i1 - s0 j0 r");
        x.setHandler(0, 9);
        Bench.due("instructions", x.run(0, 6), 58);
        Bench.due("guards", Bench.guards(x, 0), "2k 2z 2o 6o");
        Bench.due("no guard is asked of a step that would fail", x.exits(0, 0) + " " + x.exits(0, 1) + " " + x.exits(0, 2), "0 0 0");
        Bench.due("in traces", x.inTraces(), 20);
        Bench.due("the end", Bench.ending(x), "i48");
        Tracewheel y = Bench.machine(1, "1: n0 i1 p0 l0 i1 - u s0 z10 j0 l0 r");
        y.run(0, 70);
        Bench.due("60 objects", Bench.ending(y), "xo0");
        Bench.due("exits", y.exits(0, 0) + " " + y.exits(0, 2), "0 0");
    }

    private static void twentyTraces() {
        Tracewheel x = Bench.machine(0, CELL);
        for (int i = 1; i <= 20; i++) {
            x.run(0, 5);
            Bench.due("traces " + i, x.traces(), i);
            Bench.due("thrown away " + i, x.setCell(0, i), 1);
        }
        x.run(0, 5);
        Bench.due("no other trace", x.traces() + " " + Bench.head(x, 0, 0), "20 0");
        x.run(0, 5);
        Bench.due("broken off twice", x.traces() + " " + Bench.head(x, 0, 0), "20 0 barred");
        Bench.fails("meanGuards", ArithmeticException.class, x::meanGuards);
        Bench.due("no steps", x.codeSize(), 0);
        Bench.due("the last one", x.isThere(19) + " " + x.steps(19) + " " + x.rootOf(19), "false 9 19");
        Bench.due("agreement", x.agrees() && x.isSound(), true);
    }

    private static void leastLatelyEntered() {
        Tracewheel x = Bench.machine(0, PARITY, PARITY, PARITY);
        x.setLimits(3, 2, 45);
        x.run(0, 20);
        x.run(1, 20);
        Bench.due("two trees", Bench.there(x) + " " + x.codeSize(), "1111 42");
        x.run(0, 2);
        x.run(2, 20);
        Bench.due("the second was entered least lately", Bench.there(x) + " " + x.codeSize(), "110011 42");
        Bench.due("its head's counter", x.counter(1, 0) + " " + x.counter(0, 0), "0 3");
        Bench.due("a smaller limit", x.setLimits(3, 2, 41), 1);
        Bench.due("the first goes", Bench.there(x) + " " + x.codeSize(), "000011 21");
        Bench.due("just enough", x.setLimits(3, 2, 21), 0);
        Bench.due("one too few", x.setLimits(3, 2, 20), 1);
        Bench.due("none is left", Bench.there(x) + " " + x.codeSize() + " " + x.counter(2, 0), "000000 0 0");
        Bench.due("what is gone can be asked", x.sideOf(0, 1) + " " + x.rootOf(5) + " " + x.steps(3), "1 4 8");
        Tracewheel y = Bench.machine(0, PARITY, PARITY);
        y.run(0, 20);
        y.run(1, 20);
        Bench.due("two at once", y.setLimits(3, 2, 10), 2);
    }

    private static void neverTheOwnTree() {
        Tracewheel x = Bench.machine(0, PARITY, "1: l0 i1 - u s0 z7 j0 l0 r");
        x.setLimits(3, 2, 20);
        x.run(1, 9);
        Bench.due("a small tree", Bench.there(x) + " " + x.codeSize(), "1 7");
        x.run(0, 10);
        Bench.due("both have room, the side trace has none without the small one", Bench.there(x) + " " + x.codeSize(), "01 13");
        x.run(0, 20);
        x.run(0, 20);
        Bench.due("the side trace never comes to be", Bench.there(x) + " " + x.codeSize(), "01 13");
        Bench.due("agreement", x.agrees() && x.isSound(), true);
    }

    private static void aTraceThatIsTooLong() {
        Tracewheel x = Bench.machine(0, PARITY, "1: l0 i1 - u s0 z7 j0 l0 r");
        x.setLimits(3, 2, 12);
        x.run(1, 9);
        Bench.due("a small tree", Bench.there(x), "1");
        x.run(0, 6);
        Bench.due("all trees are thrown away for it, and it has no room all the same", Bench.there(x) + " " + Bench.head(x, 0, 0), "0 1");
        x.run(0, 7);
        Bench.due("once more", Bench.there(x) + " " + Bench.head(x, 0, 0), "0 3 barred");
    }

    private static void cellsThrowAway() {
        Tracewheel x = Bench.machine(0, CELL, CELL, SUM, CELL.replace("k0", "k1"));
        x.setLimits(3, 2, 200);
        for (int i = 0; i < 4; i++) {
            x.run(i, 9);
        }
        Bench.due("four trees", Bench.there(x), "1111");
        Bench.due("the same integer", x.setCell(0, 0), 0);
        Bench.due("another cell", x.setCell(7, 1), 0);
        Bench.due("both trees with the cell", x.setCell(0, 1), 2);
        Bench.due("the others stay", Bench.there(x), "0011");
        Bench.due("counters", x.counter(0, 0) + " " + x.counter(1, 0) + " " + x.counter(2, 2) + " " + x.counter(3, 0), "0 0 3 3");
        Bench.due("none is left for the cell", x.setCell(0, 2), 0);
        Tracewheel y = Bench.machine(0, PARITY.replace("l0 i1 -", "l0 k5 -"));
        y.setCell(5, 1);
        y.run(0, 20);
        Bench.due("a tree with the cell in two traces", y.traces() + " " + y.setCell(5, 2), "2 1");
        Bench.due("nothing is there", Bench.there(y), "00");
    }

    private static void methodsThrowAway() {
        Tracewheel x = Bench.machine(2, "1: n0 m0 d l0 i1 - u s0 z10 j0 l0 r", "1: l1 r", SUM, "1: i5 r");
        x.setMethod(0, 0, 1);
        x.run(0, 9);
        x.run(2, 9);
        Bench.due("two trees", Bench.there(x), "11");
        Bench.due("a method of another class and name", x.setMethod(1, 5, 1), 1);
        Bench.due("the tree with the method is gone", Bench.there(x), "01");
        x.run(0, 9);
        Bench.due("it comes again", Bench.there(x), "011");
        Bench.due("the same method", x.setMethod(0, 0, 1), 1);
        Bench.due("and none is left", x.setMethod(0, 0, 3), 0);
        Bench.due("the head's counter", x.counter(0, 0), 0);
        Bench.due("agreement", x.agrees(), true);
    }

    private static void sharesAndMeans() {
        Tracewheel x = Bench.machine(0, PARITY, SUM);
        x.run(0, 20);
        Bench.due("share", x.tracedShare(), 174.0f / 241.0f);
        Bench.due("mean", x.meanGuards(), 4.0);
        x.run(1, 9);
        Bench.due("share of the last run", x.tracedShare(), 53.0f / 102.0f);
        Bench.due("mean of three", x.meanGuards(), 13.0 / 3.0);
        x.run(1, 1);
        Bench.due("no share", x.tracedShare(), 0.0f);
        Bench.due("in traces", x.inTraces(), 0);
    }
}
