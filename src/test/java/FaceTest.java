import java.util.NoSuchElementException;

/** Promises 1 to 8 and what the others throw: what is told to the machine, and what it refuses. */
public final class FaceTest {
    private static final Class<IndexOutOfBoundsException> INDEX = IndexOutOfBoundsException.class;
    private static final Class<IllegalArgumentException> ARGUMENT = IllegalArgumentException.class;
    private static final Class<IllegalStateException> STATE = IllegalStateException.class;
    private static final Class<UnsupportedOperationException> UNSUPPORTED = UnsupportedOperationException.class;
    private static final Class<NoSuchElementException> MISSING = NoSuchElementException.class;
    private static final int[] FAR = {-1, Integer.MIN_VALUE, Integer.MAX_VALUE};

    public static void main(String[] args) {
        aNewObject();
        addFunction();
        codeTakesLetters();
        codeRefuses();
        setHandler();
        addClass();
        sixtyShapes();
        setMethod();
        setCell();
        setLimits();
        runRefuses();
        theLastRunRefuses();
        objectsAndShapesRefuse();
        sitesRefuse();
        tracesRefuse();
        Bench.end();
    }

    private static void aNewObject() {
        Tracewheel x = new Tracewheel();
        Bench.due("outcome of a new machine", x.outcome(), '-');
        Bench.due("told of a new machine", x.told(), 0);
        Bench.due("objects of a new machine", x.objects(), 0);
        Bench.due("shapes of a new machine", x.shapes(), 0);
        Bench.due("traces of a new machine", x.traces(), 0);
        Bench.due("inTraces of a new machine", x.inTraces(), 0);
        Bench.due("codeSize of a new machine", x.codeSize(), 0);
        Bench.due("agrees of a new machine", x.agrees(), true);
        Bench.due("isSound of a new machine", x.isSound(), true);
        Bench.due("the first function", x.addFunction(1), 0);
        Bench.due("the first class", x.addClass(-1), 0);
    }

    private static void addFunction() {
        Tracewheel x = new Tracewheel();
        Bench.fails("addFunction(4)", ARGUMENT, () -> x.addFunction(4));
        for (int far : FAR) {
            Bench.fails("addFunction(" + far + ")", ARGUMENT, () -> x.addFunction(far));
        }
        for (int i = 0; i < 8; i++) {
            Bench.due("function " + i, x.addFunction(i % 4), i);
        }
        Bench.fails("a ninth function", STATE, () -> x.addFunction(0));
        Bench.fails("a ninth function with 4 parameters", ARGUMENT, () -> x.addFunction(4));
    }

    private static void codeTakesLetters() {
        Tracewheel x = Bench.machine(2, "0:", "3:");
        String[] good = {"i-2147483648", "i2147483647", "k0", "k7", "l0", "l5", "s0", "s5", "u0", "d0", "+0", "-0", "*0",
            "/0", "%0", "<0", "w0", "=0", "j0", "j39", "z0", "z39", "n0", "n1", "g0", "g5", "p0", "p5", "c0", "c1", "m0",
            "m5", "r0", "t0"};
        for (int i = 0; i < good.length; i++) {
            int operand = Integer.parseInt(good[i].substring(1));
            Bench.due("code " + good[i], x.code(0, good[i].charAt(0), operand), i + 1);
        }
        String[] bad = {"k8", "k-1", "l6", "l-1", "s6", "s-1", "u1", "d-1", "+1", "-1", "*1", "/1", "%1", "<1", "w1", "=1",
            "j40", "j-1", "z40", "z-1", "n2", "n-1", "g6", "g-1", "p6", "p-1", "c2", "c-1", "m6", "m-1", "r1", "t-1"};
        for (String word : bad) {
            int operand = Integer.parseInt(word.substring(1));
            Bench.fails("code " + word, ARGUMENT, () -> x.code(0, word.charAt(0), operand));
        }
        Bench.due("code in another function", x.code(1, 'r', 0), 1);
    }

    private static void codeRefuses() {
        Tracewheel x = Bench.machine(0, "0:");
        for (char letter : new char[] {'a', 'y', 'I', ' ', '0', '\0', '\uffff'}) {
            Bench.fails("code with letter " + (int) letter, ARGUMENT, () -> x.code(0, letter, 0));
        }
        Bench.fails("'n' without classes", ARGUMENT, () -> x.code(0, 'n', 0));
        for (int far : FAR) {
            Bench.fails("code of function " + far, INDEX, () -> x.code(far, '?', 0));
        }
        Bench.fails("code of function 1", INDEX, () -> x.code(1, 'r', 0));
        for (int i = 1; i <= 40; i++) {
            Bench.due("instruction " + i, x.code(0, 'i', i), i);
        }
        Bench.fails("instruction 41", STATE, () -> x.code(0, 'i', 0));
        Bench.fails("instruction 41 with a bad letter", ARGUMENT, () -> x.code(0, 'y', 0));
        Bench.fails("instruction 41 with a bad operand", ARGUMENT, () -> x.code(0, 'l', 6));
    }

    private static void setHandler() {
        Tracewheel x = Bench.machine(0, "1: d", "1:");
        Bench.due("the first handler", x.setHandler(0, 39), -1);
        Bench.due("the second handler", x.setHandler(0, 0), 39);
        Bench.due("the third handler", x.setHandler(0, 1), 0);
        Bench.due("a handler of another function", x.setHandler(1, 5), -1);
        Bench.fails("handler 40", ARGUMENT, () -> x.setHandler(0, 40));
        for (int far : FAR) {
            Bench.fails("handler " + far, ARGUMENT, () -> x.setHandler(0, far));
            Bench.fails("the handler of function " + far, INDEX, () -> x.setHandler(far, far));
        }
        Bench.fails("the handler of function 2", INDEX, () -> x.setHandler(2, 0));
        Bench.due("the handler that stays", x.setHandler(0, 1), 1);
        Bench.write(x, 0, "r");
        x.run(0, 0);
        Bench.due("what a handler gives", Bench.ending(x), "i" + (int) 's');
    }

    private static void addClass() {
        Tracewheel x = new Tracewheel();
        Bench.fails("class below 0 without classes", INDEX, () -> x.addClass(0));
        Bench.fails("class below -2", INDEX, () -> x.addClass(-2));
        for (int i = 0; i < 5; i++) {
            Bench.due("class " + i, x.addClass(i - 1), i);
            Bench.due("shapes with class " + i, x.shapes(), i + 1);
            Bench.due("fields of the shape of class " + i, x.fields(i), 0);
        }
        Bench.fails("a sixth class", STATE, () -> x.addClass(-1));
        Bench.fails("a sixth class below none", INDEX, () -> x.addClass(5));
        for (int far : FAR) {
            if (far != -1) {
                Bench.fails("class below " + far, INDEX, () -> x.addClass(far));
            }
        }
    }

    /** Eleven objects whose fields come to be in other orders: one class has then made all shapes that there can be. */
    private static void sixtyShapes() {
        Tracewheel x = Bench.machine(1, "1:", "1:", "1:", "1:", "1:", "1:", "1:");
        int object = 0;
        for (int function = 0; function < 6; function++) {
            for (int half = 0; half < 2; half++) {
                StringBuilder text = new StringBuilder("n0 s1");
                int first = object % 6;
                int second = (first + 1 + object / 6) % 6;
                text.append(" l1 i1 p").append(first).append(" l1 i1 p").append(second);
                for (int name = 0; name < 6; name++) {
                    if (name != first && name != second) {
                        text.append(" l1 i1 p").append(name);
                    }
                }
                Bench.write(x, function, text.toString());
                object++;
            }
            x.run(function, 0);
            Bench.due("shapes behind function " + function, x.shapes(), new int[] {13, 25, 37, 47, 57, 60}[function]);
        }
        Bench.due("the end at 60 shapes", Bench.ending(x), "xf516");
        Bench.fails("a class at 60 shapes", UNSUPPORTED, () -> x.addClass(-1));
        Bench.fails("a class at 60 shapes below none", INDEX, () -> x.addClass(1));
        x.run(0, 0);
        Bench.due("shapes that are there serve again", Bench.ending(x), "xe40");
        Bench.due("shapes that are there", x.shapes(), 60);
        Bench.due("agreement at 60 shapes", x.agrees(), true);
        Tracewheel y = Bench.machine(5, "1:");
        Bench.fails("a sixth class", STATE, () -> y.addClass(0));
    }

    private static void setMethod() {
        Tracewheel x = Bench.machine(0, "1:", "1: i11 r", "1: i22 r", "2:");
        x.addClass(-1);
        x.addClass(0);
        x.addClass(1);
        Bench.fails("method of class 3", INDEX, () -> x.setMethod(3, 6, 9));
        for (int far : FAR) {
            Bench.fails("method of class " + far, INDEX, () -> x.setMethod(far, 0, 1));
            Bench.fails("method by name " + far, ARGUMENT, () -> x.setMethod(0, far, 9));
            Bench.fails("method that is function " + far, MISSING, () -> x.setMethod(0, 0, far));
        }
        Bench.fails("method by name 6", ARGUMENT, () -> x.setMethod(0, 6, 1));
        Bench.fails("method that is function 4", MISSING, () -> x.setMethod(0, 0, 4));
        Bench.fails("method with two parameters", UNSUPPORTED, () -> x.setMethod(0, 0, 3));
        Bench.due("a method by the last name", x.setMethod(2, 5, 1), 0);
        Bench.write(x, 0, "n2 m3 r");
        x.run(0, 0);
        Bench.due("a class without the method", Bench.ending(x), "xm1");
        x.setMethod(0, 3, 1);
        x.run(0, 0);
        Bench.due("the method of the parent's parent", Bench.ending(x), "i11");
        x.setMethod(1, 3, 2);
        x.run(0, 0);
        Bench.due("the method of the parent", Bench.ending(x), "i22");
        x.setMethod(2, 3, 1);
        x.run(0, 0);
        Bench.due("the class's own method", Bench.ending(x), "i11");
        x.setMethod(2, 3, 2);
        x.run(0, 0);
        Bench.due("a method in place of another", Bench.ending(x), "i22");
    }

    private static void setCell() {
        Tracewheel x = Bench.machine(0, "1: k0 k7 - r");
        Bench.due("a cell", x.setCell(0, 5), 0);
        Bench.due("the last cell", x.setCell(7, 8), 0);
        x.run(0, 0);
        Bench.due("what cells give", Bench.ending(x), "i-3");
        Bench.fails("cell 8", ARGUMENT, () -> x.setCell(8, 0));
        for (int far : FAR) {
            Bench.fails("cell " + far, ARGUMENT, () -> x.setCell(far, 0));
        }
        x.run(0, 0);
        Bench.due("what cells give still", Bench.ending(x), "i-3");
    }

    private static void setLimits() {
        Tracewheel x = new Tracewheel();
        Bench.due("the least limits", x.setLimits(2, 1, 10), 0);
        Bench.due("the greatest limits", x.setLimits(50, 20, 200), 0);
        int[][] bad = {{1, 1, 10}, {51, 1, 10}, {2, 0, 10}, {2, 21, 10}, {2, 1, 9}, {2, 1, 201}, {-2, 1, 10}, {2, -1, 10},
            {2, 1, -10}, {Integer.MIN_VALUE, Integer.MAX_VALUE, 0}};
        for (int[] b : bad) {
            Bench.fails("limits " + b[0] + " " + b[1] + " " + b[2], ARGUMENT, () -> x.setLimits(b[0], b[1], b[2]));
        }
    }

    private static void runRefuses() {
        Tracewheel x = Bench.machine(0, "0: i1 r", "1: l0 t l0 r");
        Bench.fails("run of function 2", INDEX, () -> x.run(2, 0));
        for (int far : FAR) {
            Bench.fails("run of function " + far, INDEX, () -> x.run(far, 0));
        }
        Bench.fails("run without parameters", UNSUPPORTED, () -> x.run(0, 0));
        Bench.due("outcome without a run", x.outcome(), '-');
        Bench.due("instructions of a run", x.run(1, 7), 4);
        Bench.fails("run without parameters", UNSUPPORTED, () -> x.run(0, 0));
        Bench.due("the last run stays", Bench.ending(x) + " " + Bench.told(x), "i7 i7");
    }

    private static void theLastRunRefuses() {
        Tracewheel x = Bench.machine(0, "1: l0 t l0 t l0 r");
        Bench.fails("resultKind without a run", MISSING, x::resultKind);
        Bench.fails("result without a run", MISSING, x::result);
        Bench.fails("failure without a run", MISSING, x::failure);
        Bench.fails("line without a run", MISSING, x::line);
        Bench.fails("tracedShare without a run", ArithmeticException.class, x::tracedShare);
        Bench.fails("meanGuards without traces", ArithmeticException.class, x::meanGuards);
        Bench.fails("toldAt without a run", INDEX, () -> x.toldAt(0));
        x.run(0, 3);
        Bench.fails("failure of a run with a value", MISSING, x::failure);
        Bench.fails("line of a run with a value", MISSING, x::line);
        for (int index : new int[] {2, -1, Integer.MIN_VALUE, Integer.MAX_VALUE}) {
            Bench.fails("toldKind " + index, INDEX, () -> x.toldKind(index));
            Bench.fails("toldAt " + index, INDEX, () -> x.toldAt(index));
        }
        Tracewheel y = Bench.machine(0, "1: l0 z3 d i4 r");
        y.run(0, 0);
        Bench.due("a run with a value", Bench.ending(y), "i4");
        y.run(0, 1);
        Bench.due("a run with a failure", Bench.ending(y), "xs2");
        Bench.fails("resultKind of a run with a failure", MISSING, y::resultKind);
        Bench.fails("result of a run with a failure", MISSING, y::result);
    }

    private static void objectsAndShapesRefuse() {
        Tracewheel x = Bench.machine(1, "1: n0 s1 l1 i5 p3 l1 i6 p1 l1 r");
        x.run(0, 0);
        Bench.due("the object", Bench.ending(x), "o0");
        Bench.due("its shape", x.shapeOf(0), 2);
        Bench.due("its fields", x.field(0, 3) + " " + x.field(0, 1), "5 6");
        Bench.due("the shape's fields", x.fields(2) + " " + x.fieldAt(2, 0) + " " + x.fieldAt(2, 1), "2 3 1");
        Bench.due("the shapes that follow", x.nextShape(0, 3) + " " + x.nextShape(1, 1), "1 2");
        for (int far : new int[] {-1, 3, Integer.MIN_VALUE, Integer.MAX_VALUE}) {
            Bench.fails("shapeOf " + far, INDEX, () -> x.shapeOf(far));
            Bench.fails("field of object " + far, INDEX, () -> x.field(far, 9));
            Bench.fails("fields of shape " + far, INDEX, () -> x.fields(far));
            Bench.fails("fieldAt of shape " + far, INDEX, () -> x.fieldAt(far, 9));
            Bench.fails("nextShape of shape " + far, INDEX, () -> x.nextShape(far, 9));
            Bench.fails("fieldAt " + far, MISSING, () -> x.fieldAt(2, far));
        }
        for (int name : new int[] {-1, 0, 6, Integer.MIN_VALUE, Integer.MAX_VALUE}) {
            Bench.fails("field " + name, MISSING, () -> x.field(0, name));
            Bench.fails("nextShape by " + name, MISSING, () -> x.nextShape(0, name));
        }
        Bench.fails("fieldAt 2", MISSING, () -> x.fieldAt(2, 2));
        Bench.fails("fieldAt of a shape without fields", MISSING, () -> x.fieldAt(0, 0));
        Bench.fails("nextShape by a name that is there", MISSING, () -> x.nextShape(1, 3));
        Bench.write(x, 0, "r");
        x.addFunction(1);
        x.run(1, 0);
        Bench.fails("an object of the run before", INDEX, () -> x.shapeOf(0));
        Bench.due("objects of a run without any", x.objects(), 0);
        Bench.due("shapes stay", x.shapes(), 3);
    }

    private static void sitesRefuse() {
        Tracewheel x = Bench.machine(1, "1: l0 g0 p0 m0 r");
        Bench.due("caches that no run has used", Bench.cache(x, 0, 1) + Bench.cache(x, 0, 2) + Bench.cache(x, 0, 3), "e 0 0e 0 0e 0 0");
        for (int index : new int[] {-1, 0, 4, 5, 39, 40, Integer.MIN_VALUE, Integer.MAX_VALUE}) {
            Bench.fails("cacheState at " + index, MISSING, () -> x.cacheState(0, index));
            Bench.fails("hits at " + index, MISSING, () -> x.hits(0, index));
            Bench.fails("misses at " + index, MISSING, () -> x.misses(0, index));
        }
        for (int far : new int[] {-1, 1, 8, Integer.MIN_VALUE, Integer.MAX_VALUE}) {
            Bench.fails("cacheState of function " + far, INDEX, () -> x.cacheState(far, 99));
            Bench.fails("hits of function " + far, INDEX, () -> x.hits(far, 99));
            Bench.fails("misses of function " + far, INDEX, () -> x.misses(far, 99));
            Bench.fails("counter of function " + far, INDEX, () -> x.counter(far, 99));
            Bench.fails("isBarred of function " + far, INDEX, () -> x.isBarred(far, 99));
        }
        for (int index : new int[] {-1, 40, Integer.MIN_VALUE, Integer.MAX_VALUE}) {
            Bench.fails("counter at " + index, ARGUMENT, () -> x.counter(0, index));
            Bench.fails("isBarred at " + index, ARGUMENT, () -> x.isBarred(0, index));
        }
        Bench.due("the counter behind the code", x.counter(0, 39), 0);
        Bench.due("the bar behind the code", x.isBarred(0, 39), false);
    }

    private static void tracesRefuse() {
        Tracewheel x = Bench.machine(0, "1: l0 i1 - u s0 z7 j0 l0 r");
        x.run(0, 9);
        Bench.due("one trace", x.traces(), 1);
        for (int far : new int[] {-1, 1, 20, Integer.MIN_VALUE, Integer.MAX_VALUE}) {
            Bench.fails("isThere " + far, INDEX, () -> x.isThere(far));
            Bench.fails("steps " + far, INDEX, () -> x.steps(far));
            Bench.fails("lineAt of " + far, INDEX, () -> x.lineAt(far, -1));
            Bench.fails("guards " + far, INDEX, () -> x.guards(far));
            Bench.fails("guardAt of " + far, INDEX, () -> x.guardAt(far, 0));
            Bench.fails("guardStep of " + far, INDEX, () -> x.guardStep(far, 0));
            Bench.fails("exits of " + far, INDEX, () -> x.exits(far, 0));
            Bench.fails("sideOf of " + far, INDEX, () -> x.sideOf(far, 0));
            Bench.fails("rootOf " + far, INDEX, () -> x.rootOf(far));
            Bench.fails("begun " + far, INDEX, () -> x.begun(far));
        }
        Bench.due("its steps", x.steps(0), 7);
        Bench.due("its guards", x.guards(0), 3);
        for (int far : new int[] {-1, 7, Integer.MIN_VALUE, Integer.MAX_VALUE}) {
            Bench.fails("lineAt " + far, MISSING, () -> x.lineAt(0, far));
        }
        for (int far : new int[] {-1, 3, Integer.MIN_VALUE, Integer.MAX_VALUE}) {
            Bench.fails("guardAt " + far, INDEX, () -> x.guardAt(0, far));
            Bench.fails("guardStep " + far, INDEX, () -> x.guardStep(0, far));
            Bench.fails("exits " + far, INDEX, () -> x.exits(0, far));
            Bench.fails("sideOf " + far, INDEX, () -> x.sideOf(0, far));
        }
        Bench.fails("the side trace of a guard without one", MISSING, () -> x.sideOf(0, 2));
    }
}
