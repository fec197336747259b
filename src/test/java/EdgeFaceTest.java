import java.util.NoSuchElementException;

/**
 * The edges of the calls, promise by promise: the least and the greatest that a call takes, what lies one beside them,
 * what is full or empty, which exception comes first, and that a refused call changes nothing.
 */
public final class EdgeFaceTest {
    private static final Class<IndexOutOfBoundsException> INDEX = IndexOutOfBoundsException.class;
    private static final Class<IllegalArgumentException> ARGUMENT = IllegalArgumentException.class;
    private static final Class<IllegalStateException> STATE = IllegalStateException.class;
    private static final Class<UnsupportedOperationException> UNSUPPORTED = UnsupportedOperationException.class;
    private static final Class<NoSuchElementException> MISSING = NoSuchElementException.class;
    private static final Class<ArithmeticException> ARITHMETIC = ArithmeticException.class;

    public static void main(String[] args) {
        aNewMachineHasNothing();
        aNewMachineHasItsLimits();
        functionsHaveZeroToThreeParameters();
        thereAreEightFunctions();
        codeNeedsAFunction();
        codeNeedsALetter();
        codeNeedsAnOperandForTheLetter();
        operandsOfClassesAndFunctionsThatThereAre();
        thereAreFortyInstructions();
        handlersAreIndices();
        parentsAreClasses();
        thereAreFiveClasses();
        aClassNeedsAShape();
        methodsNeedAClassANameAndAFunction();
        methodsHaveOneParameter();
        cellsAreEight();
        limitsHaveRanges();
        runNeedsAFunctionWithAParameter();
        runReturnsWhatIsExecuted();
        theEndOfTheLastRun();
        whatIsTold();
        objectsOfTheLastRun();
        shapesAndTheirFields();
        shapesThatFollow();
        cachesHaveSites();
        headsHaveIndices();
        tracesHaveNumbers();
        stepsHavePlaces();
        guardsHavePlaces();
        sharesAndMeans();
        theLastOf512Calls();
        Bench.end();
    }

    private static void sentence(String text) {
        Bench.sentence(text);
    }

    /** Its function 0 rests on a cell, a method, a field and a handler; one trace is there. */
    private static Tracewheel small() {
        Tracewheel x = Bench.machine(1, "1:", "0: i5 r", "1: l0 g0 r", "2: l0 r");
        x.addClass(0);
        Bench.write(x, 0, "n1 s1 l1 l0 p0 k0 t l1 m0 d l0 i1 - u s0 z17 j2 l0 r");
        x.setMethod(0, 0, 2);
        x.setHandler(0, 17);
        x.setCell(0, 4);
        x.run(0, 9);
        return x;
    }

    private static Tracewheel empty() {
        return new Tracewheel();
    }

    private static void refuses(String what, Class<? extends RuntimeException> kind, Bench.CallOn call) {
        Bench.refuses(what, EdgeFaceTest::small, kind, call);
    }

    // ---- promise 1

    private static void aNewMachineHasNothing() {
        sentence("Promise 1: Creates a machine without functions and classes.");
        Tracewheel x = new Tracewheel();
        Bench.fails("run(0, 0)", INDEX, () -> x.run(0, 0));
        Bench.fails("code(0, 'r', 0)", INDEX, () -> x.code(0, 'r', 0));
        Bench.fails("setHandler(0, 0)", INDEX, () -> x.setHandler(0, 0));
        Bench.fails("addClass(0)", INDEX, () -> x.addClass(0));
        Bench.fails("setMethod(0, 0, 0)", INDEX, () -> x.setMethod(0, 0, 0));
        Bench.fails("cacheState(0, 0)", INDEX, () -> x.cacheState(0, 0));
        Bench.fails("counter(0, 0)", INDEX, () -> x.counter(0, 0));
        Bench.fails("isBarred(0, 0)", INDEX, () -> x.isBarred(0, 0));
        Bench.due("shapes()", x.shapes(), 0);
        Bench.due("the first function", x.addFunction(0), 0);
        Bench.due("the first class", x.addClass(-1), 0);
    }

    private static void aNewMachineHasItsLimits() {
        sentence("Terms: the loop limit, 3 at first; the exit limit, 2 at first; the code limit, 80 at first");
        Tracewheel x = Bench.machine(0, "1: l0 i2 % z6 i7 t l0 i1 - u s0 z13 j0 l0 r");
        x.run(0, 3);
        Bench.due("the counter behind two jumps back", x.counter(0, 0), 2);
        x.run(0, 5);
        Bench.due("a trace, recorded from the third jump on", x.traces() + " " + x.counter(0, 0), "1 3");
        Bench.due("exits, the second one begins a recording", x.exits(0, 1), 2);
        x.run(0, 9);
        Bench.due("a side trace", x.traces(), 2);
        Bench.due("80 steps", threeTrees(80), "111 80");
        Bench.due("81 steps", threeTrees(81), "011 53");
    }

    /** Which of three trees are there that have so many steps together, and the steps that are there. */
    private static String threeTrees(int steps) {
        Tracewheel x = Bench.machine(0, loopOf(28), loopOf(28), loopOf(steps - 2 * 28));
        for (int i = 0; i < 3; i++) {
            x.run(i, 5);
        }
        return Bench.there(x) + " " + x.codeSize();
    }

    /** A loop whose trace has so many steps, 7 or more. */
    private static String loopOf(int steps) {
        int pads = steps - 7;
        StringBuilder text = new StringBuilder("1: l0 i1 - u s0 z" + steps);
        for (int i = 0; i < pads; i++) {
            text.append(" j").append(7 + i);
        }
        return text.append(" j0 l0 r").toString();
    }

    // ---- promise 2

    private static void functionsHaveZeroToThreeParameters() {
        sentence("Promise 2: `parameters`: the number of parameters, 0 to 3 / IllegalArgumentException if it is out of range");
        for (int parameters = 0; parameters <= 3; parameters++) {
            int count = parameters;
            Tracewheel x = Bench.machine(0, count + ": l0 t l1 t l2 t l3 r", "1:");
            Bench.write(x, 1, Bench.times(count, "l0") + "c0 r");
            x.run(1, 6);
            Bench.due(count + " parameters", Bench.told(x) + " " + Bench.ending(x),
                (count > 0 ? "i6" : "n0") + (count > 1 ? " i6" : " n0") + (count > 2 ? " i6" : " n0") + " n0");
        }
        for (int bad : new int[] {-1, 4, -2, 5}) {
            refuses("addFunction(" + bad + ")", ARGUMENT, x -> x.addFunction(bad));
        }
        for (int far : Bench.FAR) {
            refuses("addFunction(" + far + ")", ARGUMENT, x -> x.addFunction(far));
        }
    }

    private static Tracewheel eightFunctions() {
        return Bench.machine(0, "1: l0 r", "1:", "1:", "1:", "1:", "1:", "1:", "1: l0 c0 r");
    }

    private static void thereAreEightFunctions() {
        sentence("Promise 2: IllegalStateException if there are 8 functions");
        Tracewheel x = new Tracewheel();
        for (int i = 0; i < 8; i++) {
            Bench.due("function " + i, x.addFunction(1), i);
        }
        for (int parameters = 0; parameters <= 3; parameters++) {
            int count = parameters;
            Bench.refuses("a ninth function with " + count, EdgeFaceTest::eightFunctions, STATE, y -> y.addFunction(count));
        }
        sentence("Exceptions: If several apply, the one listed first is thrown: IllegalArgumentException at 8 functions");
        for (int bad : new int[] {-1, 4}) {
            Bench.refuses("a ninth function with " + bad, EdgeFaceTest::eightFunctions, ARGUMENT, y -> y.addFunction(bad));
        }
        Tracewheel y = eightFunctions();
        y.run(7, 3);
        Bench.due("the last function", Bench.ending(y), "i3");
    }

    // ---- promise 3

    private static void codeNeedsAFunction() {
        sentence("Promise 3: IndexOutOfBoundsException if there is no such function");
        for (int bad : new int[] {-1, 4, 7, 8}) {
            refuses("code of function " + bad, INDEX, x -> x.code(bad, 'r', 0));
            refuses("code of function " + bad + " with a bad letter", INDEX, x -> x.code(bad, 'y', 0));
            refuses("code of function " + bad + " with a bad operand", INDEX, x -> x.code(bad, 'l', 6));
        }
        for (int far : Bench.FAR) {
            refuses("code of function " + far, INDEX, x -> x.code(far, 'r', 0));
        }
        Tracewheel x = small();
        Bench.due("code of the last function", x.code(3, 'r', 0), 3);
        Bench.refuses("code of a ninth function", EdgeFaceTest::eightFunctions, INDEX, y -> y.code(8, 'r', 0));
        Tracewheel y = eightFunctions();
        Bench.due("code of the eighth function", y.code(7, 'r', 0), 4);
    }

    private static void codeNeedsALetter() {
        sentence("Promise 3: IllegalArgumentException if there is no such letter");
        int taken = 0;
        Tracewheel x = null;
        for (int letter = 0; letter <= 65535; letter++) {
            if (letter % 400 == 0) {
                x = Bench.machine(1, "1:");
            }
            taken += takes(x, (char) letter) ? 1 : 0;
        }
        Bench.due("letters that are taken", taken, 23);
        for (char letter : "iklsud+-*/%<w=jzngpcmrt".toCharArray()) {
            Tracewheel y = Bench.machine(1, "1:");
            Bench.due("code with " + letter, y.code(0, letter, 0), 1);
        }
        for (char letter : new char[] {'h', 'y', 'I', '>', '\0', '\uffff', (char) ('i' + 256)}) {
            refuses("code with letter " + (int) letter, ARGUMENT, y -> y.code(0, letter, 0));
        }
    }

    private static boolean takes(Tracewheel x, char letter) {
        try {
            return x.code(0, letter, 0) > 0;
        } catch (IllegalArgumentException e) {
            return false;
        }
    }

    private static void codeNeedsAnOperandForTheLetter() {
        sentence("Promise 3: `operand`: for 'k' a cell, for 'l' and 's' 0 to 5, for 'j' and 'z' 0 to 39, "
            + "for 'g', 'p' and 'm' a name, for 'i' any integer, and 0 for all others");
        String[] ranges = {"k7", "l5", "s5", "j39", "z39", "g5", "p5", "m5", "u0", "d0", "+0", "-0", "*0", "/0", "%0", "<0", "w0",
            "=0", "r0", "t0"};
        for (String range : ranges) {
            char letter = range.charAt(0);
            int last = Integer.parseInt(range.substring(1));
            Tracewheel x = Bench.machine(1, "1:");
            for (int operand = 0; operand <= last; operand++) {
                Bench.due("code " + letter + operand, x.code(0, letter, operand), operand + 1);
            }
            for (int bad : new int[] {-1, last + 1, Integer.MIN_VALUE, Integer.MAX_VALUE, 256, 65536, -65536}) {
                Bench.fails("code " + letter + bad, ARGUMENT, () -> x.code(0, letter, bad));
            }
            refuses("code " + letter + "-1", ARGUMENT, y -> y.code(0, letter, -1));
            refuses("code " + letter + (last + 1), ARGUMENT, y -> y.code(0, letter, last + 1));
        }
        for (int any : new int[] {Integer.MIN_VALUE, Integer.MIN_VALUE + 1, -1, 0, 1, 65536, Integer.MAX_VALUE}) {
            Bench.due("i" + any, Bench.ends("i" + any + " r"), "i" + any);
        }
    }

    private static void operandsOfClassesAndFunctionsThatThereAre() {
        sentence("Promise 3: `operand`: for 'n' a class that there is, for 'c' a function that there is");
        for (int classes = 0; classes <= 5; classes++) {
            Tracewheel x = Bench.machine(classes, "1:");
            int count = classes;
            Bench.fails("n" + count + " of " + count + " classes", ARGUMENT, () -> x.code(0, 'n', count));
            Bench.fails("n-1 of " + count + " classes", ARGUMENT, () -> x.code(0, 'n', -1));
            for (int i = 0; i < classes; i++) {
                Bench.due("n" + i + " of " + count + " classes", x.code(0, 'n', i), i + 1);
            }
        }
        Tracewheel x = new Tracewheel();
        for (int functions = 1; functions <= 8; functions++) {
            int count = functions;
            x.addFunction(0);
            Bench.fails("c" + count + " of " + count + " functions", ARGUMENT, () -> x.code(count - 1, 'c', count));
            Bench.due("c" + (count - 1) + " of " + count + " functions", x.code(0, 'c', count - 1), count);
        }
        refuses("n2 of 2 classes", ARGUMENT, y -> y.code(0, 'n', 2));
        refuses("c4 of 4 functions", ARGUMENT, y -> y.code(0, 'c', 4));
        refuses("c-1", ARGUMENT, y -> y.code(0, 'c', -1));
    }

    private static Tracewheel fortyInstructions() {
        return Bench.machine(0, "1: " + Bench.times(19, "i0 d") + "l0 r");
    }

    private static void thereAreFortyInstructions() {
        sentence("Promise 3: Returns the number of instructions. / IllegalStateException if there are 40 instructions");
        Tracewheel x = Bench.machine(0, "1:", "1:");
        for (int i = 1; i <= 40; i++) {
            Bench.due("instruction " + i, x.code(0, 'i', i), i);
        }
        Bench.fails("instruction 41", STATE, () -> x.code(0, 'i', 41));
        Bench.due("the other function", x.code(1, 'i', 0), 1);
        Bench.refuses("instruction 41", EdgeFaceTest::fortyInstructions, STATE, y -> y.code(0, 'r', 0));
        sentence("Exceptions: If several apply, the one listed first is thrown: IllegalArgumentException at 40 instructions");
        Bench.refuses("instruction 41, no letter", EdgeFaceTest::fortyInstructions, ARGUMENT, y -> y.code(0, 'y', 0));
        Bench.refuses("instruction 41, no operand", EdgeFaceTest::fortyInstructions, ARGUMENT, y -> y.code(0, 'r', 1));
        Bench.refuses("instruction 41, no function", EdgeFaceTest::fortyInstructions, INDEX, y -> y.code(1, 'y', 0));
    }

    // ---- promise 4

    private static void handlersAreIndices() {
        sentence("Promise 4: Returns the handler before the call, or -1.");
        Tracewheel x = Bench.machine(0, "1:", "1:", "1:", "1:", "1:", "1:", "1:", "1:");
        Bench.due("the first handler", x.setHandler(7, 0), -1);
        Bench.due("the last index", x.setHandler(7, 39), 0);
        Bench.due("the handler before", x.setHandler(7, 39), 39);
        Bench.due("another function", x.setHandler(0, 1), -1);
        sentence("Promise 4: `index`: 0 to 39 / IllegalArgumentException if the index is out of range");
        for (int bad : new int[] {-1, 40, -2, 41}) {
            refuses("handler " + bad, ARGUMENT, y -> y.setHandler(0, bad));
        }
        for (int far : Bench.FAR) {
            refuses("handler " + far, ARGUMENT, y -> y.setHandler(0, far));
        }
        sentence("Promise 4: IndexOutOfBoundsException if there is no such function, ahead of the index");
        for (int bad : new int[] {-1, 4, 8, Integer.MIN_VALUE, Integer.MAX_VALUE}) {
            refuses("the handler of function " + bad, INDEX, y -> y.setHandler(bad, 0));
            refuses("handler 40 of function " + bad, INDEX, y -> y.setHandler(bad, 40));
        }
        Bench.fails("the handler of a ninth function", INDEX, () -> x.setHandler(8, 0));
    }

    // ---- promise 5

    private static void parentsAreClasses() {
        sentence("Promise 5: `parent`: its number, or -1 / IndexOutOfBoundsException if it is not -1 and there is no such class");
        Bench.refuses("a class below 0 without classes", EdgeFaceTest::empty, INDEX, x -> x.addClass(0));
        for (int bad : new int[] {-2, 2, 3, 5}) {
            refuses("a class below " + bad, INDEX, x -> x.addClass(bad));
        }
        for (int far : Bench.FAR) {
            refuses("a class below " + far, INDEX, x -> x.addClass(far));
        }
        Tracewheel x = small();
        Bench.due("below the last class", x.addClass(1), 2);
        Bench.due("below none", x.addClass(-1), 3);
        Bench.due("below the first class", x.addClass(0), 4);
    }

    private static Tracewheel fiveClasses() {
        return Bench.machine(5, "1: n4 r");
    }

    private static void thereAreFiveClasses() {
        sentence("Promise 5: Returns the number of the class. / IllegalStateException if there are 5 classes");
        Tracewheel x = new Tracewheel();
        for (int i = 0; i < 5; i++) {
            Bench.due("class " + i, x.addClass(-1), i);
        }
        Bench.refuses("a sixth class", EdgeFaceTest::fiveClasses, STATE, y -> y.addClass(-1));
        Bench.refuses("a sixth class below the last", EdgeFaceTest::fiveClasses, STATE, y -> y.addClass(4));
        sentence("Exceptions: If several apply, the one listed first is thrown: IndexOutOfBoundsException at 5 classes");
        Bench.refuses("a sixth class below itself", EdgeFaceTest::fiveClasses, INDEX, y -> y.addClass(5));
        Bench.refuses("a sixth class below -2", EdgeFaceTest::fiveClasses, INDEX, y -> y.addClass(-2));
    }

    private static Tracewheel shapes58() {
        return runOf(Bench.withShapes57("n0 u i1 p1 i1 p2 l0 r"));
    }

    private static Tracewheel shapes59() {
        return runOf(Bench.withShapes57("n0 u i1 p1 u i1 p2 i1 p3 l0 r"));
    }

    private static Tracewheel shapes60() {
        return runOf(Bench.withShapes57("n0 u i1 p1 u i1 p2 u i1 p3 i1 p4 l0 r"));
    }

    private static Tracewheel runOf(Tracewheel x) {
        x.run(3, 0);
        return x;
    }

    private static void aClassNeedsAShape() {
        sentence("Promise 5: UnsupportedOperationException if there are 60 shapes");
        Tracewheel x = shapes58();
        Bench.due("shapes", x.shapes(), 58);
        Bench.due("a class at 58 shapes", x.addClass(-1) + " " + x.shapes(), "1 59");
        Bench.due("a class at 59 shapes", x.addClass(0) + " " + x.shapes(), "2 60");
        Bench.due("the last shape's fields", x.fields(59), 0);
        Bench.fails("a class at 60 shapes", UNSUPPORTED, () -> x.addClass(-1));
        Tracewheel y = shapes59();
        Bench.due("a class at 59 shapes", y.shapes() + " " + y.addClass(0) + " " + y.shapes(), "59 1 60");
        Bench.fails("a class below the last one at 60 shapes", UNSUPPORTED, () -> y.addClass(1));
        Tracewheel z = shapes60();
        Bench.due("shapes", z.shapes(), 60);
        Bench.fails("a class at 60 shapes", UNSUPPORTED, () -> z.addClass(0));
        Bench.fails("a class at 60 shapes below none", UNSUPPORTED, () -> z.addClass(-1));
        Bench.due("shapes still", z.shapes(), 60);
        Bench.fails("no class has come to be", INDEX, () -> z.addClass(1));
        sentence("Exceptions: If several apply, the one listed first is thrown: at 60 shapes, and at 5 classes too");
        Bench.fails("a class below one that is not there", INDEX, () -> z.addClass(2));
        Tracewheel w = Bench.withShapes57("n0 u i1 p1 u i1 p2 u i1 p3 i1 p4 l0 r");
        for (int i = 1; i < 4; i++) {
            w.addClass(-1);
        }
        Bench.fails("4 classes and 60 shapes", UNSUPPORTED, () -> w.addClass(-1));
        Tracewheel v = fiveClassesAndSixtyShapes();
        Bench.due("shapes", v.shapes(), 60);
        Bench.fails("5 classes and 60 shapes", STATE, () -> v.addClass(-1));
        Bench.fails("5 classes and 60 shapes, and no such parent", INDEX, () -> v.addClass(5));
    }

    private static Tracewheel fiveClassesAndSixtyShapes() {
        Tracewheel y = Bench.machine(5, "1: l0 i1 p0 l0 i1 p1 l0 i1 p2 l0 i1 p3 l0 i1 p4 l0 i1 p5 l0 r",
            "1: n0 c0 d n1 c0 d n2 c0 d n3 c0 d n4 c0 d n0 u i1 p1 c0 d n1 u i1 p1 c0 r",
            "1: n2 u i1 p1 c0 d n3 u i1 p1 c0 d n4 u i1 p1 c0 r");
        y.run(1, 0);
        y.run(2, 0);
        return y;
    }

    // ---- promise 6

    private static void methodsNeedAClassANameAndAFunction() {
        sentence("Promise 6: IndexOutOfBoundsException if there is no such class");
        for (int bad : new int[] {-1, 2, 5, Integer.MIN_VALUE, Integer.MAX_VALUE}) {
            refuses("the method of class " + bad, INDEX, x -> x.setMethod(bad, 0, 2));
            refuses("the method of class " + bad + " without name", INDEX, x -> x.setMethod(bad, 6, 8));
        }
        sentence("Promise 6: `name`: 0 to 5 / IllegalArgumentException if there is no such name");
        for (int bad : new int[] {-1, 6, Integer.MIN_VALUE, Integer.MAX_VALUE, 256}) {
            refuses("the method by name " + bad, ARGUMENT, x -> x.setMethod(0, bad, 2));
            refuses("the method by name " + bad + " without function", ARGUMENT, x -> x.setMethod(0, bad, 8));
        }
        sentence("Promise 6: NoSuchElementException if there is no such function");
        for (int bad : new int[] {-1, 4, 8, Integer.MIN_VALUE, Integer.MAX_VALUE}) {
            refuses("function " + bad + " as a method", MISSING, x -> x.setMethod(0, 0, bad));
        }
        sentence("Promise 6: each class, name and function that there is");
        Tracewheel x = Bench.machine(5, "1:", "1: i1 r", "0:", "0:", "0:", "0:", "0:", "1: i7 r");
        for (int name = 0; name <= 5; name++) {
            Bench.due("the method by name " + name, x.setMethod(4, name, 7), 0);
            Bench.write(x, 0, "n4 m" + name + " t");
        }
        Bench.due("the method of class 0", x.setMethod(0, 0, 1), 0);
        Bench.write(x, 0, "n0 m0 r");
        x.run(0, 0);
        Bench.due("methods", Bench.told(x) + " " + Bench.ending(x), "i7 i7 i7 i7 i7 i7 i1");
    }

    private static void methodsHaveOneParameter() {
        sentence("Promise 6: UnsupportedOperationException if the function does not have one parameter");
        Bench.Maker maker = () -> Bench.machine(1, "0: r", "1: l0 r", "2: l0 r", "3: l0 r");
        for (int function : new int[] {0, 2, 3}) {
            Bench.refuses("a method with " + function + " parameters", maker, UNSUPPORTED, x -> x.setMethod(0, 5, function));
        }
        Bench.due("a method with one", maker.make().setMethod(0, 5, 1), 0);
        sentence("Exceptions: If several apply, the one listed first is thrown: class, name, function, parameters");
        Bench.refuses("no class", maker, INDEX, x -> x.setMethod(1, 6, 0));
        Bench.refuses("no name", maker, ARGUMENT, x -> x.setMethod(0, 6, 0));
    }

    // ---- promises 7 and 8

    private static void cellsAreEight() {
        sentence("Promise 7: `cell`: 0 to 7 / IllegalArgumentException if there is no such cell");
        Tracewheel x = Bench.machine(0, "1: k0 t k1 t k2 t k3 t k4 t k5 t k6 t k7 t l0 r");
        x.run(0, 0);
        Bench.due("the cells at first", Bench.told(x), "i0 i0 i0 i0 i0 i0 i0 i0");
        int[] integers = {Integer.MIN_VALUE, -1, 0, 1, 2, 3, 4, Integer.MAX_VALUE};
        for (int cell = 0; cell < 8; cell++) {
            Bench.due("setCell(" + cell + ", " + integers[cell] + ")", x.setCell(cell, integers[cell]), 0);
        }
        x.run(0, 0);
        Bench.due("the cells", Bench.told(x), "i-2147483648 i-1 i0 i1 i2 i3 i4 i2147483647");
        for (int bad : new int[] {-1, 8, 9, -2}) {
            refuses("cell " + bad, ARGUMENT, y -> y.setCell(bad, 9));
        }
        for (int far : Bench.FAR) {
            refuses("cell " + far, ARGUMENT, y -> y.setCell(far, 9));
        }
    }

    private static void limitsHaveRanges() {
        sentence("Promise 8: `loop`: 2 to 50, `exit`: 1 to 20, `code`: 10 to 200");
        for (int loop : new int[] {2, 50}) {
            for (int exit : new int[] {1, 20}) {
                for (int code : new int[] {10, 200}) {
                    Bench.due("setLimits(" + loop + ", " + exit + ", " + code + ")", empty().setLimits(loop, exit, code), 0);
                }
            }
        }
        sentence("Promise 8: IllegalArgumentException if one of them is out of range");
        for (int bad : new int[] {1, 51, 0, -3, Integer.MIN_VALUE, Integer.MAX_VALUE, 259}) {
            refuses("loop limit " + bad, ARGUMENT, x -> x.setLimits(bad, 1, 10));
        }
        for (int bad : new int[] {0, 21, -2, Integer.MIN_VALUE, Integer.MAX_VALUE, 258}) {
            refuses("exit limit " + bad, ARGUMENT, x -> x.setLimits(2, bad, 10));
        }
        for (int bad : new int[] {9, 201, 0, -80, Integer.MIN_VALUE, Integer.MAX_VALUE, 336}) {
            refuses("code limit " + bad, ARGUMENT, x -> x.setLimits(2, 1, bad));
        }
        refuses("all three", ARGUMENT, x -> x.setLimits(1, 0, 9));
    }

    // ---- promise 9

    private static void runNeedsAFunctionWithAParameter() {
        sentence("Promise 9: IndexOutOfBoundsException if there is no such function");
        for (int bad : new int[] {-1, 4, 7, 8}) {
            refuses("run(" + bad + ", 0)", INDEX, x -> x.run(bad, 0));
        }
        for (int far : Bench.FAR) {
            refuses("run(" + far + ", 0)", INDEX, x -> x.run(far, 0));
        }
        sentence("Promise 9: UnsupportedOperationException if it has no parameters");
        refuses("run(1, 0)", UNSUPPORTED, x -> x.run(1, 0));
        sentence("Running: whose first parameter is an integer and whose others are nothing");
        for (int argument : new int[] {Integer.MIN_VALUE, -1, 0, 1, Integer.MAX_VALUE}) {
            Tracewheel x = Bench.machine(0, "3: l0 t l1 t l2 t l3 t l4 t l5 t l0 r", "1: l0 t l1 t l0 r");
            x.run(0, argument);
            Bench.due("three parameters", Bench.told(x) + " " + Bench.ending(x), "i" + argument + " n0 n0 n0 n0 n0 i" + argument);
            x.run(1, argument);
            Bench.due("one parameter", Bench.told(x) + " " + Bench.ending(x), "i" + argument + " n0 i" + argument);
        }
    }

    private static void runReturnsWhatIsExecuted() {
        sentence("Promise 9: Returns the number of instructions that are executed.");
        Tracewheel x = Bench.machine(0, "1:", "1: l0 r", "1: j0");
        Bench.due("one that fails", x.run(0, 0), 1);
        Bench.due("two", x.run(1, 0), 2);
        Bench.due("as many as can be", x.run(2, 0), 1000);
    }

    // ---- promises 10 to 20

    private static void theEndOfTheLastRun() {
        sentence("Promise 10: Returns 'v' with a value, 'x' with a failure, '-' if there was none.");
        Tracewheel x = Bench.machine(0, "1: l0 z3 r l0 r", "0:");
        Bench.due("without a run", x.outcome(), '-');
        Bench.fails("run without parameters", UNSUPPORTED, () -> x.run(1, 0));
        Bench.due("behind a refused run", x.outcome(), '-');
        ends(x, false, false);
        x.run(0, 0);
        Bench.due("with a value", x.outcome(), 'v');
        ends(x, true, false);
        x.run(0, 1);
        Bench.due("with a failure", x.outcome(), 'x');
        ends(x, false, true);
        x.run(0, 0);
        Bench.due("with a value again", x.outcome(), 'v');
        ends(x, true, false);
        Bench.fails("a refused run", INDEX, () -> x.run(2, 1));
        Bench.due("the value stays", x.outcome() + " " + x.resultKind() + x.result(), "v i0");
    }

    private static void ends(Tracewheel x, boolean value, boolean failure) {
        sentence("Promises 11 to 14: NoSuchElementException if no run has ended so");
        if (value) {
            Bench.due("resultKind() and result()", x.resultKind() + " " + x.result(), "i 0");
        } else {
            Bench.fails("resultKind()", MISSING, x::resultKind);
            Bench.fails("result()", MISSING, x::result);
        }
        if (failure) {
            Bench.due("failure() and line()", x.failure() + " " + x.line(), "s 2");
        } else {
            Bench.fails("failure()", MISSING, x::failure);
            Bench.fails("line()", MISSING, x::line);
        }
    }

    private static void whatIsTold() {
        sentence("Promises 15 to 17: `index`: from 0 / IndexOutOfBoundsException if there is no such value");
        Tracewheel x = Bench.machine(0, "1: l0 z9 l0 t l0 i1 - s0 j0 l0 r");
        Bench.due("without a run", x.told(), 0);
        toldRefuses(x, 0);
        for (int count : new int[] {0, 1, 19, 20, 21, 40}) {
            x.run(0, count);
            int kept = Math.min(count, 20);
            Bench.due(count + " told", x.told(), kept);
            if (kept > 0) {
                Bench.due("the first", x.toldKind(0) + " " + x.toldAt(0), "i " + count);
                Bench.due("the last", x.toldKind(kept - 1) + " " + x.toldAt(kept - 1), "i " + (count - kept + 1));
            }
            toldRefuses(x, kept);
        }
        x.run(0, 0);
        toldRefuses(x, 0);
    }

    private static void toldRefuses(Tracewheel x, int count) {
        for (int bad : new int[] {-1, count, 20, Integer.MIN_VALUE, Integer.MAX_VALUE}) {
            Bench.fails("toldKind(" + bad + ") of " + count, INDEX, () -> x.toldKind(bad));
            Bench.fails("toldAt(" + bad + ") of " + count, INDEX, () -> x.toldAt(bad));
        }
    }

    private static void objectsOfTheLastRun() {
        sentence("Promises 18 to 20: IndexOutOfBoundsException if there is no such object");
        Tracewheel x = Bench.machine(1, "1: l0 z12 n0 l0 p5 l0 i1 - s0 j0 j11 l0 l0 r");
        Bench.due("objects without a run", x.objects(), 0);
        objectsRefuse(x, 0);
        for (int count : new int[] {0, 1, 2, 59, 60, 1, 0}) {
            x.run(0, count);
            Bench.due("objects()", x.objects(), count);
            if (count > 0) {
                Bench.due("the first", x.shapeOf(0) + " " + x.field(0, 5), "1 " + count);
                Bench.due("the last", x.shapeOf(count - 1) + " " + x.field(count - 1, 5), "1 1");
            }
            objectsRefuse(x, count);
        }
        sentence("Promise 20: `name`: 0 to 5 / NoSuchElementException if it has no such field");
        x.run(0, 1);
        for (int bad : new int[] {-1, 0, 4, 6, Integer.MIN_VALUE, Integer.MAX_VALUE, 261}) {
            Bench.fails("field(0, " + bad + ")", MISSING, () -> x.field(0, bad));
        }
        Tracewheel y = Bench.machine(1, "1: n0 u i10 p0 u i11 p1 u i12 p2 u i13 p3 u i14 p4 u i15 p5 n0 r");
        y.run(0, 0);
        for (int name = 0; name <= 5; name++) {
            int asked = name;
            Bench.due("field(0, " + name + ")", y.field(0, name), 10L + name);
            Bench.fails("field(1, " + name + ")", MISSING, () -> y.field(1, asked));
        }
        Bench.fails("field(0, 6)", MISSING, () -> y.field(0, 6));
        Bench.fails("field(1, -1)", MISSING, () -> y.field(1, -1));
    }

    private static void objectsRefuse(Tracewheel x, int count) {
        for (int bad : new int[] {-1, count, 60, Integer.MIN_VALUE, Integer.MAX_VALUE}) {
            Bench.fails("shapeOf(" + bad + ") of " + count, INDEX, () -> x.shapeOf(bad));
            Bench.fails("field(" + bad + ", 5) of " + count, INDEX, () -> x.field(bad, 5));
            Bench.fails("field(" + bad + ", 6) of " + count, INDEX, () -> x.field(bad, 6));
        }
    }

    // ---- promises 21 to 24

    private static void shapesAndTheirFields() {
        sentence("Promises 21 and 22: IndexOutOfBoundsException if there is no such shape");
        Tracewheel none = new Tracewheel();
        Bench.due("shapes()", none.shapes(), 0);
        shapesRefuse(none, 0);
        Tracewheel x = Bench.machine(1, "1: n0 u i1 p5 u i1 p0 u i1 p3 u i1 p4 u i1 p1 u i1 p2 r");
        Bench.due("shapes of a class", x.shapes() + " " + x.fields(0), "1 0");
        shapesRefuse(x, 1);
        x.run(0, 0);
        Bench.due("shapes with all fields", x.shapes(), 7);
        for (int shape = 0; shape < 7; shape++) {
            Bench.due("fields(" + shape + ")", x.fields(shape), shape);
        }
        shapesRefuse(x, 7);
        Tracewheel full = shapes60();
        Bench.due("shapes that are full", full.shapes() + " " + full.fields(59), "60 4");
        shapesRefuse(full, 60);
        sentence("Promise 23: `index`: from 0 / NoSuchElementException if it has no such field");
        int[] order = {5, 0, 3, 4, 1, 2};
        for (int index = 0; index < 6; index++) {
            Bench.due("fieldAt(6, " + index + ")", x.fieldAt(6, index), order[index]);
        }
        for (int shape : new int[] {0, 1, 6}) {
            for (int bad : new int[] {-1, shape, 6, Integer.MIN_VALUE, Integer.MAX_VALUE}) {
                Bench.fails("fieldAt(" + shape + ", " + bad + ")", MISSING, () -> x.fieldAt(shape, bad));
            }
        }
    }

    private static void shapesRefuse(Tracewheel x, int count) {
        for (int bad : new int[] {-1, count, 60, Integer.MIN_VALUE, Integer.MAX_VALUE}) {
            Bench.fails("fields(" + bad + ") of " + count, INDEX, () -> x.fields(bad));
            Bench.fails("fieldAt(" + bad + ", 0) of " + count, INDEX, () -> x.fieldAt(bad, 0));
            Bench.fails("fieldAt(" + bad + ", -1) of " + count, INDEX, () -> x.fieldAt(bad, -1));
            Bench.fails("nextShape(" + bad + ", 0) of " + count, INDEX, () -> x.nextShape(bad, 0));
            Bench.fails("nextShape(" + bad + ", 6) of " + count, INDEX, () -> x.nextShape(bad, 6));
        }
    }

    private static void shapesThatFollow() {
        sentence("Promise 24: `name`: 0 to 5 / NoSuchElementException if it has not come to be");
        Tracewheel x = Bench.machine(1, "1: n0 u l0 p0 n0 u l0 p1 n0 u l0 p2 n0 u l0 p3 n0 u l0 p4 n0 u l0 p5 r");
        for (int name = 0; name <= 5; name++) {
            int asked = name;
            Bench.fails("nextShape(0, " + name + ") without a run", MISSING, () -> x.nextShape(0, asked));
        }
        x.run(0, 0);
        for (int name = 0; name <= 5; name++) {
            Bench.due("nextShape(0, " + name + ")", x.nextShape(0, name), name + 1);
        }
        for (int bad : new int[] {-1, 6, Integer.MIN_VALUE, Integer.MAX_VALUE, 256}) {
            Bench.fails("nextShape(0, " + bad + ")", MISSING, () -> x.nextShape(0, bad));
            Bench.fails("nextShape(6, " + bad + ")", MISSING, () -> x.nextShape(6, bad));
        }
        Bench.fails("nextShape(1, 0), its own field", MISSING, () -> x.nextShape(1, 0));
        Bench.fails("nextShape(1, 1)", MISSING, () -> x.nextShape(1, 1));
        Tracewheel full = shapes60();
        Bench.due("the last one", full.nextShape(58, 4), 59);
        Bench.fails("none behind the last one", MISSING, () -> full.nextShape(59, 0));
    }

    // ---- promises 25 to 29

    private static void cachesHaveSites() {
        sentence("Promises 25 to 27: NoSuchElementException if there is no 'g', 'p' or 'm' at this index");
        String all = "g0 p0 m0 " + Bench.times(36, "j0") + "m5";
        Tracewheel x = Bench.machine(0, "1:", "1: " + all, "1: i0 k0 l0 s0 u d + - * / % < w = j0 z0 c0 r t");
        Bench.due("the first", Bench.cache(x, 1, 0), "e 0 0");
        Bench.due("a 'p'", Bench.cache(x, 1, 1), "e 0 0");
        Bench.due("an 'm'", Bench.cache(x, 1, 2), "e 0 0");
        Bench.due("the last", Bench.cache(x, 1, 39), "e 0 0");
        for (int bad : new int[] {-1, 3, 38, 40, Integer.MIN_VALUE, Integer.MAX_VALUE, 256}) {
            noCache(x, 1, bad);
        }
        for (int index = 0; index <= 18; index++) {
            noCache(x, 2, index);
        }
        noCache(x, 0, 0);
        noCache(x, 0, 39);
        noCache(x, 0, -1);
        noCache(x, 0, 40);
        x.code(0, 'g', 0);
        Bench.due("when it is there", Bench.cache(x, 0, 0), "e 0 0");
        noCache(x, 0, 1);
        sentence("Promises 25 to 27: IndexOutOfBoundsException if there is no such function");
        for (int bad : new int[] {-1, 3, 8, Integer.MIN_VALUE, Integer.MAX_VALUE}) {
            for (int index : new int[] {0, -1, 40}) {
                Bench.fails("cacheState(" + bad + ", " + index + ")", INDEX, () -> x.cacheState(bad, index));
                Bench.fails("hits(" + bad + ", " + index + ")", INDEX, () -> x.hits(bad, index));
                Bench.fails("misses(" + bad + ", " + index + ")", INDEX, () -> x.misses(bad, index));
            }
        }
    }

    private static void noCache(Tracewheel x, int function, int index) {
        Bench.fails("cacheState(" + function + ", " + index + ")", MISSING, () -> x.cacheState(function, index));
        Bench.fails("hits(" + function + ", " + index + ")", MISSING, () -> x.hits(function, index));
        Bench.fails("misses(" + function + ", " + index + ")", MISSING, () -> x.misses(function, index));
    }

    private static void headsHaveIndices() {
        sentence("Promises 28 and 29: `index`: 0 to 39 / Returns the counter, 0 if nothing was counted.");
        Tracewheel x = Bench.machine(0, "1:", "1: j39 " + Bench.times(38, "r") + "j39");
        for (int index : new int[] {0, 1, 38, 39}) {
            Bench.due("an index without code", Bench.head(x, 0, index), "0");
        }
        x.run(1, 0);
        Bench.due("the last index", Bench.head(x, 1, 39) + " " + x.lineAt(0, 0), "3 139");
        Bench.due("the index ahead of it", Bench.head(x, 1, 38), "0");
        sentence("Promises 28 and 29: IllegalArgumentException if the index is out of range");
        for (int bad : new int[] {-1, 40, Integer.MIN_VALUE, Integer.MAX_VALUE, 256}) {
            Bench.fails("counter(1, " + bad + ")", ARGUMENT, () -> x.counter(1, bad));
            Bench.fails("isBarred(1, " + bad + ")", ARGUMENT, () -> x.isBarred(1, bad));
        }
        sentence("Promises 28 and 29: IndexOutOfBoundsException if there is no such function, ahead of the index");
        for (int bad : new int[] {-1, 2, 8, Integer.MIN_VALUE, Integer.MAX_VALUE}) {
            for (int index : new int[] {0, 39, 40, -1}) {
                Bench.fails("counter(" + bad + ", " + index + ")", INDEX, () -> x.counter(bad, index));
                Bench.fails("isBarred(" + bad + ", " + index + ")", INDEX, () -> x.isBarred(bad, index));
            }
        }
    }

    // ---- promises 30 to 45

    private static void tracesHaveNumbers() {
        sentence("Promises 31 to 40: IndexOutOfBoundsException if no such trace has come to be");
        Tracewheel none = new Tracewheel();
        Bench.due("traces()", none.traces(), 0);
        tracesRefuse(none, 0);
        Tracewheel x = Bench.machine(0, "1: k0 d l0 i1 - u s0 z9 j0 l0 r");
        x.run(0, 4);
        Bench.due("a trace that was broken off is none", x.traces(), 0);
        tracesRefuse(x, 0);
        x.run(0, 9);
        Bench.due("traces()", x.traces() + " " + x.isThere(0), "1 true");
        tracesRefuse(x, 1);
        x.setCell(0, 1);
        Bench.due("thrown away, and come to be all the same", x.traces() + " " + x.isThere(0), "1 false");
        Bench.due("its answers", x.steps(0) + " " + x.guards(0) + " " + x.rootOf(0) + " " + x.lineAt(0, 8), "9 3 0 8");
        tracesRefuse(x, 1);
        for (int i = 2; i <= 20; i++) {
            x.run(0, 5);
            x.setCell(0, i);
        }
        Bench.due("as many as can be", x.traces() + " " + x.steps(19) + " " + x.rootOf(19), "20 9 19");
        tracesRefuse(x, 20);
    }

    private static void tracesRefuse(Tracewheel x, int count) {
        for (int bad : new int[] {-1, count, Integer.MIN_VALUE, Integer.MAX_VALUE}) {
            Bench.fails("isThere(" + bad + ") of " + count, INDEX, () -> x.isThere(bad));
            Bench.fails("steps(" + bad + ") of " + count, INDEX, () -> x.steps(bad));
            Bench.fails("lineAt(" + bad + ", 0) of " + count, INDEX, () -> x.lineAt(bad, 0));
            Bench.fails("lineAt(" + bad + ", -1) of " + count, INDEX, () -> x.lineAt(bad, -1));
            Bench.fails("guards(" + bad + ") of " + count, INDEX, () -> x.guards(bad));
            Bench.fails("guardAt(" + bad + ", 0) of " + count, INDEX, () -> x.guardAt(bad, 0));
            Bench.fails("guardStep(" + bad + ", 0) of " + count, INDEX, () -> x.guardStep(bad, 0));
            Bench.fails("exits(" + bad + ", 0) of " + count, INDEX, () -> x.exits(bad, 0));
            Bench.fails("sideOf(" + bad + ", 0) of " + count, INDEX, () -> x.sideOf(bad, 0));
            Bench.fails("rootOf(" + bad + ") of " + count, INDEX, () -> x.rootOf(bad));
            Bench.fails("begun(" + bad + ") of " + count, INDEX, () -> x.begun(bad));
        }
    }

    private static void stepsHavePlaces() {
        sentence("Promise 33: `step`: from 0 / NoSuchElementException if it has no such step");
        Tracewheel x = Bench.machine(0, "1: j0", loopOf(30));
        x.run(0, 0);
        x.run(1, 9);
        Bench.due("a trace with one step", x.steps(0) + " " + x.lineAt(0, 0), "1 0");
        Bench.due("a trace with 30 steps", x.steps(1) + " " + x.lineAt(1, 0) + " " + x.lineAt(1, 29), "30 100 129");
        for (int bad : new int[] {-1, 1, 30, Integer.MIN_VALUE, Integer.MAX_VALUE}) {
            Bench.fails("lineAt(0, " + bad + ")", MISSING, () -> x.lineAt(0, bad));
        }
        for (int bad : new int[] {-1, 30, 31, Integer.MIN_VALUE, Integer.MAX_VALUE}) {
            Bench.fails("lineAt(1, " + bad + ")", MISSING, () -> x.lineAt(1, bad));
        }
        Tracewheel y = Bench.machine(0, "1:", "1:", "1:", "1:", "1:", "1:", "1:", "1: j39 " + Bench.times(38, "r") + "j39");
        y.run(7, 0);
        Bench.due("the greatest line", y.lineAt(0, 0), 739);
    }

    private static void guardsHavePlaces() {
        sentence("Promises 35 to 38: IndexOutOfBoundsException if it has no such guard");
        Tracewheel x = Bench.machine(0, "1: j0", "1: l0 i2 % z6 i7 t l0 i1 - u s0 z13 j0 l0 r");
        x.run(0, 0);
        Bench.due("a trace without guards", x.guards(0), 0);
        guardsRefuse(x, 0, 0);
        x.run(1, 20);
        Bench.due("a trace with guards", Bench.guards(x, 1), "2k 3t 8o 11t");
        Bench.due("the first and the last", x.exits(1, 0) + " " + x.exits(1, 3), "0 1");
        guardsRefuse(x, 1, 4);
        sentence("Promise 38: NoSuchElementException if it has none");
        Bench.due("the guard with a side trace", x.sideOf(1, 1), 2);
        for (int guard : new int[] {0, 2, 3}) {
            Bench.fails("sideOf(1, " + guard + ")", MISSING, () -> x.sideOf(1, guard));
        }
        Bench.fails("sideOf(2, 0)", MISSING, () -> x.sideOf(2, 0));
    }

    private static void guardsRefuse(Tracewheel x, int trace, int count) {
        for (int bad : new int[] {-1, count, count + 1, Integer.MIN_VALUE, Integer.MAX_VALUE}) {
            Bench.fails("guardAt(" + trace + ", " + bad + ")", INDEX, () -> x.guardAt(trace, bad));
            Bench.fails("guardStep(" + trace + ", " + bad + ")", INDEX, () -> x.guardStep(trace, bad));
            Bench.fails("exits(" + trace + ", " + bad + ")", INDEX, () -> x.exits(trace, bad));
            Bench.fails("sideOf(" + trace + ", " + bad + ")", INDEX, () -> x.sideOf(trace, bad));
        }
    }

    private static void sharesAndMeans() {
        sentence("Promise 41: Returns the number of instructions, 0 without a run. / Promise 43: true without a run");
        Tracewheel x = Bench.machine(0, "1: k0 j0", "1: l0 r", "0:");
        Bench.due("without a run", x.inTraces() + " " + x.agrees() + " " + x.isSound() + " " + x.codeSize(), "0 true true 0");
        sentence("Promise 44: ArithmeticException if none was executed");
        Bench.fails("tracedShare() without a run", ARITHMETIC, x::tracedShare);
        Bench.fails("run without parameters", UNSUPPORTED, () -> x.run(2, 0));
        Bench.fails("tracedShare() behind a refused run", ARITHMETIC, x::tracedShare);
        x.run(1, 0);
        Bench.due("the share of none in two", x.tracedShare(), 0.0f);
        sentence("Promise 45: ArithmeticException if none is there");
        Bench.fails("meanGuards() without traces", ARITHMETIC, x::meanGuards);
        Tracewheel y = Bench.machine(0, "1: k0 d j0", "1: l0 r");
        y.run(0, 0);
        Bench.due("one trace without guards", y.meanGuards(), 0.0);
        Bench.due("thrown away", y.setCell(0, 1), 1);
        Bench.fails("meanGuards() behind it", ARITHMETIC, y::meanGuards);
        Bench.due("no step is there", y.codeSize(), 0);
        Tracewheel z = Bench.machine(0, "1: k0 d k0 d l0 d j0");
        z.setLimits(2, 1, 10);
        z.run(0, 0);
        z.run(0, 0);
        Bench.due("the greatest share", z.tracedShare(), 993.0f / 1000.0f);
    }

    private static void theLastOf512Calls() {
        sentence("What it is: An object is used for at most 512 calls after it has been made");
        Tracewheel x = Bench.machine(0, "1: l0 i1 - u s0 z7 j0 l0 r");
        for (int call = 11; call <= 511; call++) {
            x.run(0, 9);
        }
        Bench.due("the last call", x.begun(0), 5 + 8 * 500);
    }
}
