import java.util.ArrayList;
import java.util.List;

/** What the tests of the promises share: a short way to write programs, and the counting of wrong answers. */
final class Bench {
    static final int[] FAR = {Integer.MIN_VALUE, Integer.MAX_VALUE, -256, 256, 65536, -65536};

    private static int asked;
    private static int wrong;
    private static int sentences;
    private static String sentence = "";

    private Bench() {
    }

    interface Call {
        Object make();
    }

    interface CallOn {
        Object make(Tracewheel x);
    }

    interface Maker {
        Tracewheel make();
    }

    /** Names the document's sentence of which the answers behind this call are due. */
    static void sentence(String text) {
        sentence = text;
        sentences++;
    }

    private static void tell(String fault) {
        wrong++;
        System.out.println(sentence.isEmpty() ? fault : sentence + "\n    " + fault);
    }

    static void due(String what, Object got, Object want) {
        asked++;
        if (!got.equals(want)) {
            tell(what + " answered " + got + ", due is " + want);
        }
    }

    /** A call must throw just this exception, and not one of a class below it that only the Java machine throws. */
    static void fails(String what, Class<? extends RuntimeException> kind, Call call) {
        asked++;
        try {
            Object got = call.make();
            tell(what + " answered " + got + ", due is " + kind.getSimpleName());
        } catch (RuntimeException e) {
            if (e.getClass() != kind) {
                tell(what + " threw " + e + ", due is " + kind.getSimpleName());
            }
        }
    }

    /** A refused call on a machine of its own, which must then answer and go on as one on which it was not made. */
    static void refuses(String what, Maker maker, Class<? extends RuntimeException> kind, CallOn call) {
        Tracewheel x = maker.make();
        Tracewheel y = maker.make();
        fails(what, kind, () -> call.make(x));
        due("all answers behind " + what, everything(x), everything(y));
        due("what comes behind " + what, goingOn(x), goingOn(y));
    }

    /** Answers that rest on what was told to the machine: handlers, code, methods, cells, limits and how many there are. */
    private static String goingOn(Tracewheel x) {
        StringBuilder all = new StringBuilder();
        all.append(answer(() -> x.run(0, 9))).append(' ').append(everything(x));
        all.append(answer(() -> x.code(0, 'r', 0))).append(' ').append(answer(() -> x.setHandler(0, 0))).append(' ');
        all.append(answer(() -> x.addFunction(1))).append(' ').append(answer(() -> x.addClass(-1)));
        return all.toString();
    }

    private static String answer(Call call) {
        try {
            return String.valueOf(call.make());
        } catch (RuntimeException e) {
            return e.getClass().getSimpleName();
        }
    }

    static void end() {
        String told = sentences == 0 ? "" : " of " + sentences + " sentences";
        System.out.println(asked + " answers" + told + " asked, " + wrong + " of them wrong");
        if (wrong != 0) {
            System.exit(1);
        }
    }

    /** Adds instructions written as letters with operands, as in "i5 l0 + r". */
    static void write(Tracewheel x, int function, String text) {
        for (String word : text.trim().split(" +")) {
            x.code(function, word.charAt(0), word.length() > 1 ? Integer.parseInt(word.substring(1)) : 0);
        }
    }

    /** A machine with the given classes without parents, and functions told as "parameters: instructions". */
    static Tracewheel machine(int classes, String... functions) {
        Tracewheel x = new Tracewheel();
        for (int i = 0; i < classes; i++) {
            x.addClass(-1);
        }
        for (String function : functions) {
            x.addFunction(function.charAt(0) - '0');
        }
        for (int i = 0; i < functions.length; i++) {
            if (functions[i].length() > 2) {
                write(x, i, functions[i].substring(2));
            }
        }
        return x;
    }

    /** The end of the last run: kind and value, or "x", the failure's letter and its line. */
    static String ending(Tracewheel x) {
        if (x.outcome() == 'x') {
            return "x" + x.failure() + x.line();
        }
        return x.outcome() == '-' ? "-" : value(x.resultKind(), x.result());
    }

    static String value(char kind, long bits) {
        return kind + (kind == 'f' ? String.valueOf(Double.longBitsToDouble(bits)) : String.valueOf(bits));
    }

    /** Runs a function of its own with the argument 10, with two classes there, and tells how it ends. */
    static String ends(String text) {
        Tracewheel x = machine(2, "1: " + text);
        x.run(0, 10);
        return ending(x);
    }

    static String told(Tracewheel x) {
        List<String> all = new ArrayList<>();
        for (int i = 0; i < x.told(); i++) {
            all.add(value(x.toldKind(i), x.toldAt(i)));
        }
        return String.join(" ", all);
    }

    /** The guards of a trace, each as its step and its letter. */
    static String guards(Tracewheel x, int trace) {
        List<String> all = new ArrayList<>();
        for (int i = 0; i < x.guards(trace); i++) {
            all.add(x.guardStep(trace, i) + "" + x.guardAt(trace, i));
        }
        return String.join(" ", all);
    }

    static String lines(Tracewheel x, int trace) {
        List<String> all = new ArrayList<>();
        for (int i = 0; i < x.steps(trace); i++) {
            all.add(String.valueOf(x.lineAt(trace, i)));
        }
        return String.join(" ", all);
    }

    static String cache(Tracewheel x, int function, int index) {
        return x.cacheState(function, index) + " " + x.hits(function, index) + " " + x.misses(function, index);
    }

    /** What the machine answers about its last run and what it keeps, in few enough calls for a small machine. */
    static String everything(Tracewheel x) {
        StringBuilder all = new StringBuilder(ending(x) + " | " + told(x) + " | " + x.inTraces() + " " + x.agrees() + " "
            + x.isSound() + " | " + x.codeSize());
        for (int i = 0; i < x.objects(); i++) {
            all.append(" object ").append(x.shapeOf(i));
        }
        for (int i = 0; i < x.shapes(); i++) {
            all.append(" shape");
            for (int j = 0; j < x.fields(i); j++) {
                all.append(' ').append(x.fieldAt(i, j));
            }
        }
        for (int i = 0; i < x.traces(); i++) {
            all.append(" trace ").append(x.isThere(i)).append(' ').append(x.begun(i)).append(' ').append(lines(x, i))
                .append(' ').append(guards(x, i));
        }
        return all.toString();
    }

    /** A head: its counter, and whether it is barred. */
    static String head(Tracewheel x, int function, int index) {
        return x.counter(function, index) + (x.isBarred(function, index) ? " barred" : "");
    }

    /** Which traces are there, a 1 or a 0 each. */
    static String there(Tracewheel x) {
        StringBuilder text = new StringBuilder();
        for (int i = 0; i < x.traces(); i++) {
            text.append(x.isThere(i) ? '1' : '0');
        }
        return text.toString();
    }

    /** Words repeated, each with a blank behind it. */
    static String times(int count, String words) {
        StringBuilder text = new StringBuilder();
        for (int i = 0; i < count; i++) {
            text.append(words).append(' ');
        }
        return text.toString();
    }

    /**
     * A machine with one class and 57 shapes. Its function 0 gives its parameter all six fields; in functions 1 and 2,
     * objects with some fields are given the others so. Function 3 is for the test; (1, 2) is a way that is not there.
     */
    static Tracewheel withShapes57(String last) {
        Tracewheel x = machine(1, "1: l0 i1 p0 l0 i1 p1 l0 i1 p2 l0 i1 p3 l0 i1 p4 l0 i1 p5 l0 r",
            "1: n0 c0 d n0 u i1 p1 c0 d n0 u i1 p2 c0 d n0 u i1 p3 c0 d n0 u i1 p4 c0 d n0 u i1 p5 c0 r",
            "1: n0 u i1 p0 u i1 p2 c0 d n0 u i1 p0 u i1 p3 c0 d n0 u i1 p0 u i1 p4 c0 d n0 u i1 p0 u i1 p5 c0 r", "1: " + last);
        x.run(1, 0);
        x.run(2, 0);
        return x;
    }
}
