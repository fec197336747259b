import java.util.NoSuchElementException;

/** The examples of README.md answer what README.md says. */
public final class ReadmeTest {
    public static void main(String[] args) {
        aLoopBecomesATrace();
        anObjectAndAMethod();
        aHandlerAndARefusal();
        Bench.end();
    }

    private static void aLoopBecomesATrace() {
        Tracewheel x = new Tracewheel();
        int f = x.addFunction(1);
        x.code(f, 'l', 0);
        x.code(f, 'i', 1);
        x.code(f, '-', 0);
        x.code(f, 'u', 0);
        x.code(f, 's', 0);
        x.code(f, 'z', 7);
        x.code(f, 'j', 0);
        x.code(f, 'l', 0);
        x.code(f, 'r', 0);
        Bench.due("the instructions of the loop", x.run(f, 9), 64);
        Bench.due("the end of the loop", Bench.ending(x), "i0");
        Bench.due("the traces of the loop", x.traces(), 1);
        Bench.due("the instructions in the loop's trace", x.inTraces(), 33);
        Bench.due("a guard of the loop", x.guardAt(0, 2), 't');
        Bench.due("the exits of this guard", x.exits(0, 2), 1);
        Bench.due("whether the loop ended as without traces", x.agrees(), true);
    }

    private static void anObjectAndAMethod() {
        Tracewheel x = new Tracewheel();
        int c = x.addClass(-1);
        int get = x.addFunction(1);
        x.code(get, 'l', 0);
        x.code(get, 'g', 2);
        x.code(get, 'r', 0);
        Bench.due("trees thrown away for a method", x.setMethod(c, 5, get), 0);
        int main = x.addFunction(1);
        x.code(main, 'n', c);
        x.code(main, 'u', 0);
        x.code(main, 'l', 0);
        x.code(main, 'p', 2);
        x.code(main, 'm', 5);
        x.code(main, 'r', 0);
        Bench.due("the instructions with a method", x.run(main, 7), 9);
        Bench.due("the end with a method", Bench.ending(x), "i7");
        Bench.due("the field", x.field(0, 2), 7L);
        Bench.due("the shape", x.shapeOf(0), 1);
        Bench.due("the shape that follows", x.nextShape(0, 2), 1);
        Bench.due("the method's cache", x.cacheState(main, 4), '1');
    }

    private static void aHandlerAndARefusal() {
        Tracewheel x = new Tracewheel();
        int f = x.addFunction(1);
        x.code(f, 'i', 100);
        x.code(f, 'l', 0);
        x.code(f, '/', 0);
        x.code(f, 'r', 0);
        x.run(f, 0);
        Bench.due("the end without a handler", Bench.ending(x), "x02");
        Bench.fails("the value of a run that failed", NoSuchElementException.class, x::result);
        Bench.due("the handler before", x.setHandler(f, 3), -1);
        x.run(f, 0);
        Bench.due("the end with a handler", Bench.ending(x), "i48");
        Bench.fails("an operand that is none", IllegalArgumentException.class, () -> x.code(f, 'l', 6));
        Bench.due("the instructions behind a refusal", x.code(f, 'd', 0), 5);
    }
}
