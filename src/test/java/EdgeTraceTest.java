/** The edges of heads, recordings, guards and traces, sentence by sentence. */
public final class EdgeTraceTest {
    /** Seven instructions a round; a run with the argument n makes n - 1 jumps back to its head 0. */
    private static final String LOOP = "1: l0 i1 - u s0 z7 j0 l0 r";
    /** Odd and even rounds part at the guard 1 of its trace; rounds have 13 and 11 instructions. */
    private static final String PARITY = "1: l0 i2 % z6 i7 t l0 i1 - u s0 z13 j0 l0 r";
    private static final String CELL = "1: k0 d l0 i1 - u s0 z9 j0 l0 r";

    public static void main(String[] args) {
        jumpsBack();
        loopLimits();
        limitsThatWereReachedBefore();
        thirtyStepsAndNoMore();
        brokenOffByFailures();
        brokenOffByReturning();
        brokenOffByAnotherHead();
        brokenOffByTheHeadInAnotherFrame();
        brokenOffByTheLastInstruction();
        brokenOffTwice();
        guardsOfTheSeven();
        guardsBehindGuards();
        localsOfANewFrame();
        guardsThatDoNotHold();
        shapesThatAreKnown();
        twentyTraces();
        twentyTracesAndASideTrace();
        codeLimitForOneTree();
        codeLimitForASideTrace();
        codeLimitForTwoTrees();
        theTreeEnteredLeastLately();
        entriesOfTraces();
        leavingAtAThousand();
        leavingAheadOfFailures();
        exitLimits();
        guardsThatAreBarred();
        cellsThatChange();
        methodsThatChange();
        limitsThatChange();
        countersOfHeadsThrownAway();
        sums();
        Bench.end();
    }

    private static void sentence(String text) {
        Bench.sentence(text);
    }

    private static Tracewheel ran(int argument, String function) {
        Tracewheel x = Bench.machine(0, function);
        x.run(0, argument);
        return x;
    }

    private static Tracewheel limited(int loop, int exit, int code, String... functions) {
        Tracewheel x = Bench.machine(0, functions);
        x.setLimits(loop, exit, code);
        return x;
    }

    /** A loop whose trace has so many steps, 7 or more. */
    private static String loopOf(int steps) {
        StringBuilder text = new StringBuilder("1: l0 i1 - u s0 z" + steps);
        for (int i = 7; i < steps; i++) {
            text.append(" j").append(i);
        }
        return text.append(" j0 l0 r").toString();
    }

    // ---- heads

    private static void jumpsBack() {
        sentence("Heads: a 'j', or a 'z' that goes, to an index that is not greater than its own");
        Bench.due("'j' to its own index", limitedCounter("1: j0", 0), 50);
        Bench.due("'j' to the index ahead", limitedCounter("1: j1 j0", 0), 50);
        Bench.due("'j' to the index behind", limitedCounter("1: j1 j2 l0 r", 1) + limitedCounter("1: j1 j2 l0 r", 2), 0);
        Bench.due("'z' to its own index", limitedCounter("1: i0 i0 z2", 2), 2);
        Bench.due("'z' to the index ahead", limitedCounter("1: l1 z0 r", 0), 50);
        Bench.due("'z' to the index behind", limitedCounter("1: i0 z2 i0 z4 l0 r", 2) + limitedCounter("1: i0 z2 l0 r", 1), 0);
        Bench.due("'z' that does not go", limitedCounter("1: i1 z0 i1 z1 l0 r", 0) + limitedCounter("1: i1 z1 l0 r", 1), 0);
        Bench.due("its next index is no head", limitedCounter("1: j0", 1), 0);
    }

    /** The counter of a head when the loop limit is 50: more is not counted, for then a trace is entered. */
    private static int limitedCounter(String function, int index) {
        Tracewheel x = limited(50, 20, 200, function);
        x.run(0, 1);
        return x.counter(0, index);
    }

    private static void loopLimits() {
        sentence("Heads: the counter of the head grows by 1, and if it is at least the loop limit .. recording begins");
        for (int loop : new int[] {2, 3, 4, 50}) {
            Tracewheel x = limited(loop, 2, 80, LOOP);
            x.run(0, loop);
            Bench.due("one jump less than " + loop, x.traces() + " " + Bench.head(x, 0, 0), "0 " + (loop - 1));
            Tracewheel y = limited(loop, 2, 80, LOOP);
            y.run(0, loop + 1);
            Bench.due("the last of " + loop + " begins a recording", y.traces() + " " + Bench.head(y, 0, 0), "0 0");
            Tracewheel z = limited(loop, 2, 80, LOOP);
            z.run(0, loop + 2);
            Bench.due("one more than " + loop + " ends it well", z.traces() + " " + Bench.head(z, 0, 0), "1 " + loop);
            z.run(0, 20);
            Bench.due("jumps into the trace are not counted", Bench.head(z, 0, 0), String.valueOf(loop));
        }
    }

    private static void limitsThatWereReachedBefore() {
        sentence("Heads: at least the loop limit");
        Tracewheel x = limited(50, 2, 80, LOOP);
        x.run(0, 11);
        x.setLimits(2, 2, 80);
        x.run(0, 3);
        Bench.due("a counter above the limit", x.traces() + " " + Bench.head(x, 0, 0), "1 11");
        Tracewheel y = limited(3, 2, 80, LOOP);
        y.run(0, 3);
        y.setLimits(4, 2, 80);
        y.run(0, 2);
        Bench.due("a limit that has grown", y.traces() + " " + Bench.head(y, 0, 0), "0 3");
        y.run(0, 3);
        Bench.due("a limit that is reached", y.traces() + " " + Bench.head(y, 0, 0), "1 4");
    }

    // ---- recording

    private static void thirtyStepsAndNoMore() {
        sentence("Recording: broken off when an instruction .. is to be executed behind 30 steps");
        for (int steps : new int[] {29, 30}) {
            Tracewheel x = ran(5, loopOf(steps));
            Bench.due(steps + " steps", x.traces() + " " + x.steps(0) + " " + Bench.head(x, 0, 0), "1 " + steps + " 3");
            Bench.due("the last one", x.lineAt(0, steps - 1), steps - 1);
        }
        Tracewheel x = ran(5, loopOf(31));
        Bench.due("31 steps, and the jump is counted", x.traces() + " " + Bench.head(x, 0, 0), "0 1");
        x.run(0, 4);
        Bench.due("31 steps again", x.traces() + " " + Bench.head(x, 0, 0), "0 1 barred");
        x.run(0, 20);
        Bench.due("barred", x.traces() + " " + Bench.head(x, 0, 0), "0 20 barred");
        Tracewheel y = ran(4, loopOf(31));
        Bench.due("31 instructions behind the jump, but no more jump", y.traces() + " " + Bench.head(y, 0, 0), "0 0");
    }

    private static void brokenOffByFailures() {
        sentence("Recording: It is broken off when an instruction fails");
        String[] want = {"3:2", "4:0", "5:1", "6:2", "7:0 barred", "8:1 barred", "9:2 barred"};
        for (String each : want) {
            int rounds = each.charAt(0) - '0';
            Tracewheel x = Bench.machine(0, "1: l0 i1 - u s0 z9 d d j0 l0 r");
            x.setHandler(0, 7);
            x.run(0, rounds);
            Bench.due(rounds + " rounds", rounds + ":" + Bench.head(x, 0, 0) + " " + x.traces(), each + " 0");
        }
    }

    private static void brokenOffByReturning() {
        sentence("Recording: broken off when an instruction .. is an 'r' of the frame of the root trace");
        Tracewheel x = Bench.machine(0, "1: i4 c1 d i3 c1 r", LOOP);
        x.run(0, 0);
        Bench.due("the jumps of another frame do not end it", x.traces() + " " + Bench.head(x, 1, 0), "0 2");
        sentence("Recording: each instruction that is executed is a step: an 'r' of a frame above is none that breaks off");
        Tracewheel y = Bench.machine(0, "1: l0 c1 s0 l0 z6 j0 l0 r", "1: l0 i1 - r");
        y.run(0, 9);
        Bench.due("the steps of both frames", y.traces() + " " + Bench.lines(y, 0), "1 0 1 100 101 102 103 2 3 4 5");
    }

    private static void brokenOffByAnotherHead() {
        sentence("Recording: broken off .. when another jump back is executed .., which is dealt with as told under heads behind that");
        String inner = "1: i2 s1 l1 i1 - u s1 z9 j2 l0 i1 - u s0 z16 j0 l0 r";
        String[] want = {"2: 2, 1", "3: 0, 2", "4: 1, 0", "5: 2, 1", "6: 0 barred, 2", "7: 1 barred, 0 barred",
            "8: 2 barred, 1 barred"};
        for (String each : want) {
            int rounds = each.charAt(0) - '0';
            Tracewheel x = ran(rounds, inner);
            Bench.due("the inner head and the outer head", rounds + ": " + Bench.head(x, 0, 2) + ", " + Bench.head(x, 0, 0), each);
            Bench.due("traces", x.traces(), 0);
        }
    }

    private static void brokenOffByTheHeadInAnotherFrame() {
        sentence("Recording: another jump back .., also one to that head in another frame");
        String twice = "2: l1 z3 j7 i2 i1 c0 d l0 i1 - u s0 z14 j0 l0 r";
        String[] want = {"1:1", "2:0", "3:2", "4:1 barred", "5:3 barred"};
        for (String each : want) {
            int rounds = each.charAt(0) - '0';
            Tracewheel x = ran(rounds, twice);
            Bench.due(rounds + " rounds", rounds + ":" + Bench.head(x, 0, 0) + " " + x.traces(), each + " 0");
        }
    }

    private static void brokenOffByTheLastInstruction() {
        sentence("Recording: broken off .. when the run ends");
        StringBuilder twenty = new StringBuilder("1:");
        for (int i = 1; i < 20; i++) {
            twenty.append(" j").append(i);
        }
        twenty.append(" j0");
        Tracewheel x = limited(50, 2, 80, twenty.toString());
        x.run(0, 0);
        Bench.due("it has begun with the 1000th", x.traces() + " " + Bench.head(x, 0, 0), "0 0");
        x.run(0, 0);
        Bench.due("again", x.traces() + " " + Bench.head(x, 0, 0), "0 0 barred");
        Tracewheel y = limited(49, 2, 80, twenty.toString());
        Bench.due("instructions", y.run(0, 0) + " " + Bench.ending(y), "1000 xl0");
        Bench.due("it ends well with the 1000th", y.traces() + " " + Bench.head(y, 0, 0), "1 49");
        sentence("Traces: When a trace has come to be, its root trace is entered at once.");
        Bench.due("entered, and left ahead of the first step", y.begun(0) + " " + y.inTraces(), "1 0");
        sentence("Recording: broken off .. when an instruction fails: the run ends with it");
        Tracewheel z = Bench.machine(0, "1: i7 l0 / d l0 i1 - s0 j0");
        z.run(0, 3);
        Bench.due("broken off once", Bench.ending(z) + " " + Bench.head(z, 0, 0), "x02 0");
        z.run(0, 3);
        Bench.due("broken off once, and not twice by failing and ending", Bench.head(z, 0, 0), "0 barred");
        z.run(0, 2);
        Bench.due("counted still", Bench.head(z, 0, 0), "2 barred");
    }

    private static void brokenOffTwice() {
        sentence("Recording: When it is broken off twice for the same head or guard, that one is barred; each time, its counter becomes 0.");
        Tracewheel x = ran(4, LOOP);
        Bench.due("once", Bench.head(x, 0, 0), "0");
        x.run(0, 5);
        Bench.due("it begins again, and ends well", x.traces() + " " + Bench.head(x, 0, 0), "1 3");
        Tracewheel y = Bench.machine(0, LOOP, LOOP);
        y.run(0, 4);
        y.run(1, 4);
        Bench.due("once each", Bench.head(y, 0, 0) + " " + Bench.head(y, 1, 0), "0 0");
        y.run(0, 4);
        Bench.due("twice for one of both", Bench.head(y, 0, 0) + " " + Bench.head(y, 1, 0), "0 barred 0");
        y.run(0, 20);
        y.run(1, 20);
        Bench.due("a trace for the other one", y.traces() + " " + y.lineAt(0, 0), "1 100");
    }

    // ---- guards

    private static void guards(String body, String want) {
        Bench.due("guards of " + body, TraceTest.guardsOf(body, 0), want);
    }

    private static void guardsOfTheSeven() {
        sentence("Guards: The seven with two values, if not both are known to be constant");
        for (String seven : "+ - * / % < =".split(" ")) {
            guards("i6 i3 " + seven + " d", "6k 6o 9t");
            guards("k6 i3 " + seven + " d", "6k 6o 9t");
        }
        sentence("Guards: 'k' .. if its kind is not known; 'z' .. if it is not known whether it is null; 'o' for '+', '-', '*' and '/'");
        for (String four : "+ - *".split(" ")) {
            guards("l0 i3 " + four + " d", "2k 2o 6o 9t");
            guards("i3 l0 " + four + " d", "2k 2o 6o 9t");
            guards("l0 l0 " + four + " d", "2k 2o 6o 9t");
            guards("l0 l0 + i3 " + four + " d", "2k 2o 4o 8o 11t");
        }
        guards("l0 i3 / d", "2k 2o 6o 9t");
        guards("i3 l0 / d", "2k 2z 2o 6o 9t");
        guards("l0 l0 / d", "2k 2z 2o 6o 9t");
        guards("l0 i3 % d", "2k 6o 9t");
        guards("i3 l0 % d", "2k 2z 6o 9t");
        guards("l0 l0 % d", "2k 2z 6o 9t");
        guards("l0 i3 < d", "2k 6o 9t");
        guards("l0 i3 = d", "2k 6o 9t");
        guards("i0 i5 = l0 = d", "4k 8o 11t");
        guards("l1 l2 = d", "2k 2k 6k 6o 9t");
        guards("l1 l0 = d", "2k 2k 6o 9t");
        sentence("Guards: for '/' and '%' of two integers, 'z'; for '+', '-', '*' and '/' of two integers, 'o'");
        for (String float_ : "+ - * / %".split(" ")) {
            guards("i2147483647 i1 + l0 " + float_ + " d", "4k 8o 11t");
            guards("l0 i2147483647 i1 + " + float_ + " d", "4k 8o 11t");
        }
    }

    private static void guardsBehindGuards() {
        sentence("Guards: behind a guard, what it asks is known");
        guards("l0 w d l0 w d", "1k 8o 11t");
        guards("l0 z2 l0 z4", "1t 6k 6o 9t");
        guards("i3 l0 / d i4 l0 / d", "2k 2z 2o 6o 10o 13t");
        guards("i3 l0 % d l0 z6", "2k 2z 8o 11t");
        guards("l0 z2 i3 l0 % d", "1t 4k 8o 11t");
        guards("l0 s3 l3 u s4 l4 + d", "6k 6o 10o 13t");
        sentence("Guards: if its kind is known to be object or nothing, whether it is null is known");
        guards("l5 i1 = d l5 z6", "2k 8k 8o 11t");
        guards("l0 i1 = d l0 z6", "2k 5t 8o 11t");
        sentence("Guards: 'w': 'k', if the kind of the value is not known; that of 'w' is constant if the one is");
        guards("i3 w i4 + d", "7k 7o 10t");
        guards("l0 w i4 + d", "1k 3o 7o 10t");
        guards("l0 w z2", "1k 2t 5o 8t");
        guards("i3 w z2", "5k 5o 8t");
    }

    private static void localsOfANewFrame() {
        sentence("Guards: locals of a new frame that are no parameters are known to be nothing");
        over("c1 d", "0: l0 l5 = d i5 r", "10k 10o 13t");
        over("l0 c1 d", "1: l1 l5 = d l0 i1 = r", "8k 13o 16t");
        over("l0 i3 l1 c1 d", "3: l3 l5 = d l2 r", "13k 13o 16t");
        over("l0 i3 l1 c1 d", "3: l2 l5 = r", "6k 11k 11o 14t");
        over("l0 c1 d", "1: l1 z4 i1 r i2 r", "9k 9o 12t");
        Bench.due("guards with a method", TraceTest.guardsOf("l2 m0 d", 1, "1: l1 l5 = r"), "1s 9k 9o 12t");
    }

    private static void over(String body, String other, String want) {
        Bench.due("guards of " + body + " with " + other, TraceTest.guardsOf(body, 0, other), want);
    }

    /** A guard's exits show that it did not hold, those of the others that they did. */
    private static String exitsOf(Tracewheel x, int trace) {
        StringBuilder text = new StringBuilder();
        for (int guard = 0; guard < x.guards(trace); guard++) {
            text.append(x.guardAt(trace, guard)).append(x.exits(trace, guard)).append(' ');
        }
        return text.toString().trim();
    }

    private static void guardsThatDoNotHold() {
        sentence("Guards: A guard asks for what it was when the step was recorded.");
        Tracewheel x = ran(10, "1: i2147483640 s1 l1 i1 + s1 l0 i1 - u s0 z13 j2 l0 r");
        Bench.due("guards", Bench.guards(x, 0), "2k 2o 6k 6o 9t");
        Bench.due("an integer that becomes a float in the eighth round", exitsOf(x, 0), "k2 o1 k0 o0 t0");
        Bench.due("a value that becomes 0", exitsOf(ran(9, LOOP), 0), "k0 o0 t1");
        Bench.due("a sum in range, the second one great",
            exitsOf(ran(9, "1: i2000000000 s1 l0 l1 + d l0 i1 - u s0 z13 j2 l0 r"), 0), "k0 k0 o0 o0 t1");
        Bench.due("a sum in range, the first one great",
            exitsOf(ran(9, "1: i2000000000 s1 l1 l0 + d l0 i1 - u s0 z13 j2 l0 r"), 0), "k0 k0 o0 o0 t1");
        Bench.due("a sum out of range", exitsOf(ran(9, "1: i2147483647 s1 l1 l0 + d l0 i1 - u s0 z13 j2 l0 r"), 0), "k0 k0 o0 o0 t1");
        Tracewheel y = Bench.machine(1, "1: n0 u i5 p0 s1 n0 u i6 p1 u i7 p0 s2 l1 g0 d l0 i3 < z22 l2 s1 l0 i1 - u s0 z29 j13 l0 r");
        y.run(0, 9);
        Bench.due("guards of a loop with an object", Bench.guards(y, 0), "1s 5k 6t 9o 12t");
        Bench.due("another shape in the last round", exitsOf(y, 0), "s1 k0 t1 o0 t0");
        Bench.due("both agree", x.agrees() + " " + y.agrees(), "true true");
    }

    private static void objects(String body, String want) {
        Bench.due("guards of " + body, TraceTest.guardsOf(body, 1, "1: l0 g0 r"), want);
    }

    private static void shapesThatAreKnown() {
        sentence("Guards: 'g', 'p' and 'm': 's', which shape the object has, if it is not known");
        objects("l2 g0 d l2 g0 d", "1s 8k 8o 11t");
        objects("l2 g0 d l2 i1 p0", "1s 8k 8o 11t");
        objects("l2 m0 d l2 g0 d", "1s 11k 11o 14t");
        objects("n0 i1 p0", "5k 5o 8t");
        objects("i3 d l2 g0 i1 + d", "3s 5k 5o 9k 9o 12t");
        sentence("Guards: When 'p' gives an object another shape, this shape is known of it, and no shape of any other value");
        objects("l2 g0 d n0 u i1 p1 g1 d", "1s 11k 11o 14t");
        objects("l2 g0 d n0 i1 p1 l2 g0 d", "1s 7s 11k 11o 14t");
        objects("l2 g0 d n0 i1 p0 l2 g0 d", "1s 7s 11k 11o 14t");
        objects("n0 s4 n0 i1 p1 l4 i1 p0", "7s 10k 10o 13t");
        objects("n0 u s4 i1 p1 l4 g1 d", "10k 10o 13t");
        objects("l2 g0 d l2 i1 p0 l2 g0 d", "1s 11k 11o 14t");
        Tracewheel x = Bench.machine(1, "1: l0 s1 n0 u i4 p0 s0 l0 g0 d n0 i1 p1 l0 g0 d l1 i1 - u s1 z23 j7 l1 r");
        x.run(0, 9);
        Bench.due("an object in the first local", Bench.guards(x, 0), "1s 7s 11k 11o 14t");
        sentence("Guards: but that they are objects stays known");
        objects("n0 s4 n0 i1 p1 l4 z0", "9k 9o 12t");
        objects("n0 s4 n0 i1 p1 l4 i0 = d", "11k 11o 14t");
    }

    // ---- traces

    private static void twentyTraces() {
        sentence("Traces: If 20 traces have come to be, no other one does, and its recording counts as broken off.");
        Tracewheel x = Bench.machine(0, CELL);
        for (int i = 1; i <= 20; i++) {
            x.run(0, 5);
            Bench.due("trace " + i, x.traces() + " " + Bench.head(x, 0, 0) + " " + x.isThere(i - 1), i + " 3 true");
            if (i < 20) {
                x.setCell(0, i);
            }
        }
        Bench.due("the last trace", x.meanGuards() + " " + x.codeSize() + " " + x.rootOf(19), "3.0 9 19");
        x.run(0, 5);
        Bench.due("it is entered as the others", x.traces() + " " + x.begun(19) + " " + Bench.head(x, 0, 0), "20 5 3");
        Bench.due("thrown away", x.setCell(0, 20), 1);
        x.run(0, 5);
        Bench.due("broken off", x.traces() + " " + Bench.head(x, 0, 0), "20 0");
        x.run(0, 6);
        Bench.due("broken off again, with one jump behind it", x.traces() + " " + Bench.head(x, 0, 0), "20 1 barred");
        Bench.due("nothing in traces", x.inTraces() + " " + x.codeSize() + " " + x.isSound(), "0 0 true");
    }

    private static void twentyTracesAndASideTrace() {
        sentence("Traces: numbered from 0: root traces, and side traces: a side trace is the 20th, or does not come to be");
        for (int before = 18; before <= 19; before++) {
            Tracewheel x = Bench.machine(0, CELL, PARITY);
            for (int i = 1; i <= before; i++) {
                x.run(0, 5);
                x.setCell(0, i);
            }
            x.run(1, 20);
            int root = before;
            Bench.due("traces", x.traces() + " " + x.rootOf(19) + " " + x.isThere(root), "20 " + root + " true");
            Bench.due("exits", x.exits(root, 1), 8);
            if (before == 18) {
                Bench.due("the side trace", x.sideOf(root, 1), 19);
            } else {
                Bench.fails("the side trace", java.util.NoSuchElementException.class, () -> x.sideOf(root, 1));
            }
            Bench.due("isSound()", x.isSound(), true);
        }
    }

    private static void codeLimitForOneTree() {
        sentence("Traces: if there is no tree to throw away, the trace does not come to be, and its recording counts as broken off");
        for (int limit : new int[] {10, 11, 29, 30}) {
            Tracewheel x = limited(3, 2, limit, loopOf(limit), loopOf(9));
            x.run(0, 5);
            Bench.due(limit + " steps, the limit", x.traces() + " " + x.codeSize() + " " + Bench.head(x, 0, 0), "1 " + limit + " 3");
            Bench.due("isSound()", x.isSound(), true);
        }
        for (int limit : new int[] {10, 11, 29}) {
            Tracewheel x = limited(3, 2, limit, loopOf(limit + 1));
            x.run(0, 5);
            Bench.due("one step more than " + limit + ", and the jump is not counted", x.traces() + " " + Bench.head(x, 0, 0), "0 0");
            x.run(0, 6);
            Bench.due("again", x.traces() + " " + Bench.head(x, 0, 0), "0 1 barred");
            Bench.due("no steps", x.codeSize() + " " + x.inTraces(), "0 0");
        }
    }

    private static void codeLimitForASideTrace() {
        sentence("Traces: trees are thrown away .., but never the one to which a new side trace belongs");
        Tracewheel x = limited(3, 2, 21, PARITY);
        x.run(0, 20);
        Bench.due("13 and 8 steps, the limit", Bench.there(x) + " " + x.codeSize() + " " + x.isSound(), "11 21 true");
        Tracewheel y = limited(3, 2, 20, PARITY);
        y.run(0, 20);
        Bench.due("one step too many", Bench.there(y) + " " + y.codeSize() + " " + y.isSound(), "1 13 true");
        Tracewheel z = limited(3, 2, 27, LOOP, PARITY);
        z.run(0, 9);
        z.run(1, 20);
        Bench.due("7, 13 and 8 steps, and one too many", Bench.there(z) + " " + z.codeSize(), "011 21");
        Tracewheel w = limited(3, 2, 28, LOOP, PARITY);
        w.run(0, 9);
        w.run(1, 20);
        Bench.due("7, 13 and 8 steps, the limit", Bench.there(w) + " " + w.codeSize(), "111 28");
    }

    private static void codeLimitForTwoTrees() {
        sentence("Traces: as long as the steps of a new trace and of all that are there are more than the code limit");
        for (int limit : new int[] {21, 22}) {
            Tracewheel x = limited(3, 2, limit, loopOf(10), loopOf(12));
            x.run(0, 5);
            x.run(1, 5);
            Bench.due("10 and 12 steps with room for " + limit, Bench.there(x) + " " + x.codeSize(), limit == 22 ? "11 22" : "01 12");
            Bench.due("counters", x.counter(0, 0) + " " + x.counter(1, 0), limit == 22 ? "3 3" : "0 3");
            Bench.due("isSound()", x.isSound(), true);
        }
        Tracewheel y = limited(3, 2, 200, loopOf(30), loopOf(30), loopOf(30), loopOf(30), loopOf(30), loopOf(30), loopOf(20), LOOP);
        for (int function = 0; function < 8; function++) {
            y.run(function, 5);
            Bench.due("the steps", y.codeSize(), new int[] {30, 60, 90, 120, 150, 180, 200, 177}[function]);
        }
        Bench.due("the first tree gives room", Bench.there(y), "01111111");
    }

    private static void theTreeEnteredLeastLately() {
        sentence("Traces: first the one whose root was entered least lately");
        for (int limit : new int[] {31, 32}) {
            Tracewheel x = limited(3, 2, limit, loopOf(10), loopOf(10), loopOf(10), loopOf(12));
            for (int function = 0; function < 3; function++) {
                x.run(function, 9);
            }
            Bench.due("three trees", Bench.there(x), "111");
            x.run(0, 2);
            x.run(3, 5);
            Bench.due("room for " + limit, Bench.there(x) + " " + x.codeSize(), limit == 32 ? "1011 32" : "1001 22");
            Bench.due("counters", x.counter(0, 0) + " " + x.counter(1, 0) + " " + x.counter(2, 0), limit == 32 ? "3 0 3" : "3 0 0");
        }
        Tracewheel y = limited(3, 2, 32, loopOf(10), loopOf(10), loopOf(12));
        y.run(1, 9);
        y.run(0, 9);
        y.run(1, 1);
        Bench.due("a run that does not enter it", y.inTraces() + " " + y.setLimits(3, 2, 19) + " " + Bench.there(y), "0 1 01");
    }

    // ---- in a trace

    private static void entriesOfTraces() {
        sentence("In a trace: behind the last one, and behind that of a side trace, the root trace is entered again");
        Tracewheel x = ran(5, LOOP);
        Bench.due("entered at once, and left in the last round", x.begun(0) + " " + x.inTraces(), "1 5");
        x.run(0, 2);
        Bench.due("entered by the first jump", x.begun(0) + " " + x.inTraces(), "2 5");
        x.run(0, 3);
        Bench.due("entered again behind its last step", x.begun(0) + " " + x.inTraces(), "4 12");
        Tracewheel y = ran(8, PARITY);
        Bench.due("a root trace and a side trace that was not begun", y.traces() + " " + y.begun(0) + " " + y.begun(1), "2 4 0");
        y.run(0, 6);
        Bench.due("begun by exits", y.begun(0) + " " + y.begun(1) + " " + y.exits(0, 1), "9 2 4");
        Bench.due("instructions in both", y.inTraces() + " " + y.run(0, 6), "59 73");
    }

    private static void leavingAtAThousand() {
        sentence("In a trace: Ahead of each step, the traces are left if 1000 instructions have been executed");
        Tracewheel x = ran(0, "1: j0");
        Bench.due("ahead of its only step", x.inTraces() + " " + x.begun(0) + " " + Bench.ending(x), "996 997 xl0");
        x.run(0, 0);
        Bench.due("again", x.inTraces() + " " + x.begun(0) + " " + Bench.ending(x), "999 1997 xl0");
        Tracewheel y = ran(0, "1: l0 i1 + s0 j5 j0");
        Bench.due("ahead of its fifth step", y.inTraces() + " " + y.begun(0) + " " + Bench.ending(y), "976 163 xl4");
        Bench.due("all agree", x.agrees() + " " + y.agrees(), "true true");
    }

    private static void leavingAheadOfFailures() {
        sentence("In a trace: the traces are left .. if the step would fail. Otherwise its guards are asked.");
        Tracewheel x = ran(9, "1: i1 s1 l1 i1 + d l0 i3 < z12 l5 s1 l0 i1 - u s0 z19 j2 l0 r");
        Bench.due("a kind that would fail", exitsOf(x, 0) + " " + Bench.ending(x), "k0 o0 k0 t1 o0 t0 xk4");
        Tracewheel y = ran(6, "1: i100 l0 / t l0 i1 - s0 j0");
        Bench.due("a divisor 0", exitsOf(y, 0) + " " + Bench.ending(y), "k0 z0 o0 o0 x02");
        Bench.due("instructions in traces", y.inTraces(), 9 * 2 + 2);
        Tracewheel z = Bench.machine(1, "1: n0 u i1 p0 g0 d l0 i1 - u s0 z13 j0 l0 r");
        z.run(0, 61);
        Bench.due("an object too many", Bench.ending(z) + " " + exitsOf(z, 0) + " " + z.agrees(), "xo0 k0 o0 t0 true");
        Bench.due("instructions in traces", z.inTraces(), 13 * 56);
    }

    private static void exitLimits() {
        sentence("In a trace: if the counter is at least the exit limit, and the guard is not barred, recording of a side trace begins");
        int[][] cases = {{1, 6, 2, 1}, {2, 6, 1, 1}, {2, 8, 2, 2}, {3, 8, 1, 2}, {3, 10, 2, 3}, {20, 42, 1, 19}, {20, 44, 2, 20}};
        for (int[] c : cases) {
            Tracewheel x = limited(3, c[0], 80, PARITY);
            x.run(0, c[1]);
            Bench.due("exit limit " + c[0] + " and " + c[1] + " rounds", x.traces() + " " + x.exits(0, 1), c[2] + " " + c[3]);
        }
        Tracewheel y = limited(3, 20, 80, PARITY);
        y.run(0, 20);
        y.setLimits(3, 1, 80);
        y.run(0, 4);
        Bench.due("a counter above the limit", y.traces() + " " + y.exits(0, 1), "2 9");
        sentence("Promise 37: Returns the number of exits of a guard, those with a side trace included.");
        y.run(0, 4);
        Bench.due("one more, with a side trace", y.exits(0, 1) + " " + y.begun(1), "10 1");
    }

    private static void guardsThatAreBarred() {
        sentence("Recording: When it is broken off twice for the same .. guard, that one is barred; each time, its counter becomes 0.");
        for (int runs = 1; runs <= 5; runs++) {
            Tracewheel x = Bench.machine(0, "1: l0 i1 - u s0 z7 j0 k0 z12 i9 s0 j0 l0 r");
            for (int i = 0; i < runs; i++) {
                x.run(0, 9);
            }
            Bench.due("traces of " + runs + " runs", x.traces() + " " + x.exits(0, 2), "1 " + runs);
            Bench.due("no tree has a step with the cell", x.setCell(0, 1), 0);
            x.run(0, 9);
            Bench.due("traces when the exit goes back to the head, behind " + runs + " runs", x.traces(), runs <= 3 ? 2 : 1);
            if (runs <= 3) {
                Bench.due("the side trace", Bench.lines(x, 1) + ": " + Bench.guards(x, 1), "5 7 8 9 10 11: 0t");
            }
            Bench.due("it ends as without traces", Bench.ending(x) + " " + x.agrees(), "xl7 true");
        }
    }

    // ---- throwing away

    private static void cellsThatChange() {
        sentence("Throwing away: When the integer of a cell becomes another one, all trees with a step 'k' for it are thrown away.");
        Tracewheel x = Bench.machine(0, CELL, CELL.replace("k0", "k7"), LOOP);
        for (int function = 0; function < 3; function++) {
            x.run(function, 9);
        }
        Bench.due("the integer that it is", x.setCell(0, 0) + " " + x.setCell(7, 0) + " " + Bench.there(x), "0 0 111");
        Bench.due("other cells", x.setCell(1, 5) + " " + x.setCell(6, 5) + " " + Bench.there(x), "0 0 111");
        Bench.due("the last cell", x.setCell(7, Integer.MIN_VALUE) + " " + Bench.there(x), "1 101");
        Bench.due("again", x.setCell(7, Integer.MAX_VALUE) + " " + Bench.there(x), "0 101");
        Bench.fails("cell 8", IllegalArgumentException.class, () -> x.setCell(8, 1));
        Bench.due("the first cell", x.setCell(0, -1) + " " + Bench.there(x), "1 001");
        Tracewheel y = ran(19, "1: l0 i2 % z6 k3 t l0 i1 - u s0 z13 j0 l0 r");
        Bench.due("the step is one of the side trace", Bench.there(y) + " " + Bench.lines(y, 0) + ", " + Bench.lines(y, 1),
            "11 0 1 2 3 6 7 8 9 10 11 12, 3 4 5 6 7 8 9 10 11 12");
        Bench.due("one tree", y.setCell(2, 1) + " " + y.setCell(3, 1) + " " + Bench.there(y), "0 1 00");
    }

    private static void methodsThatChange() {
        sentence("Throwing away: When a class gets a method, all trees with a step 'm' are thrown away");
        Tracewheel x = Bench.machine(2, "1: l0 i2 % z7 n0 m0 d l0 i1 - u s0 z14 j0 l0 r", LOOP, "1: i5 r", "2:");
        x.setMethod(0, 0, 2);
        x.run(0, 19);
        x.run(1, 9);
        Bench.due("trees", Bench.there(x) + " " + x.rootOf(1) + " " + x.rootOf(2), "111 0 2");
        Bench.fails("a method that is refused", UnsupportedOperationException.class, () -> x.setMethod(0, 0, 3));
        Bench.due("trees still", Bench.there(x), "111");
        Bench.due("another class, another name", x.setMethod(1, 5, 2) + " " + Bench.there(x), "1 001");
        Bench.due("none is left", x.setMethod(0, 0, 2) + " " + Bench.there(x), "0 001");
    }

    private static void limitsThatChange() {
        sentence("Promise 8: `code`: 10 to 200; as long as there are more steps, trees are thrown away");
        Tracewheel x = Bench.machine(0, loopOf(10), loopOf(12), loopOf(14));
        for (int function = 0; function < 3; function++) {
            x.run(function, 9);
        }
        x.run(0, 2);
        int[][] cases = {{36, 0, 36}, {35, 1, 24}, {24, 0, 24}, {23, 1, 10}, {10, 0, 10}};
        for (int[] c : cases) {
            Bench.due("code limit " + c[0], x.setLimits(3, 2, c[0]) + " " + x.codeSize(), c[1] + " " + c[2]);
        }
        Bench.due("the tree that was entered last", Bench.there(x), "100");
        Tracewheel y = Bench.machine(0, loopOf(11), loopOf(12), loopOf(14));
        for (int function = 0; function < 3; function++) {
            y.run(function, 9);
        }
        Bench.fails("a limit out of range", IllegalArgumentException.class, () -> y.setLimits(3, 2, 9));
        Bench.due("trees still", Bench.there(y), "111");
        Bench.due("all at once", y.setLimits(3, 2, 10) + " " + Bench.there(y) + " " + y.codeSize(), "3 000 0");
    }

    private static void countersOfHeadsThrownAway() {
        sentence("Throwing away: When a tree is thrown away, the counter of its head becomes 0.");
        Tracewheel x = ran(9, CELL);
        Bench.due("the counter of a trace's head", Bench.head(x, 0, 0), "3");
        x.setCell(0, 1);
        Bench.due("the counter behind it", Bench.head(x, 0, 0), "0");
        x.run(0, 3);
        Bench.due("it is counted anew", x.traces() + " " + Bench.head(x, 0, 0), "1 2");
        x.run(0, 3);
        Bench.due("another trace", x.traces() + " " + Bench.head(x, 0, 0) + " " + Bench.there(x), "2 3 01");
        x.setCell(0, 2);
        x.run(0, 5);
        Bench.due("a head is not barred by it", x.traces() + " " + Bench.head(x, 0, 0) + " " + Bench.there(x), "3 3 001");
        Tracewheel y = Bench.machine(0, LOOP);
        y.run(0, 9);
        y.setLimits(3, 2, 10);
        Bench.due("a tree with room", Bench.head(y, 0, 0) + " " + Bench.there(y), "3 1");
    }

    private static void sums() {
        sentence("Promise 42: Returns the sum of the steps of all traces that are there. / Promise 45: the mean number of guards");
        Tracewheel x = Bench.machine(0, CELL, PARITY, "1: j0");
        Bench.due("none", x.codeSize(), 0);
        x.run(0, 9);
        Bench.due("one", x.codeSize() + " " + x.meanGuards(), "9 3.0");
        x.run(1, 20);
        Bench.due("three", x.codeSize() + " " + x.meanGuards(), "30 " + (3 + 4 + 4) / 3.0);
        x.run(2, 0);
        Bench.due("four, the last without guards", x.codeSize() + " " + x.meanGuards(), "31 " + 11 / 4.0);
        x.setCell(0, 1);
        Bench.due("without the first", x.codeSize() + " " + x.meanGuards(), "22 " + 8 / 3.0);
        sentence("Promise 44: Returns their number divided by that of all of them, both converted to float.");
        Bench.due("nearly all", x.tracedShare(), 996f / 1000f);
        x.run(1, 20);
        Bench.due("the share", x.tracedShare(), (float) x.inTraces() / 241f);
    }
}
