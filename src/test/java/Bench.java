import java.util.ArrayList;
import java.util.List;

/** What the tests of the promises share: a short way to write programs, and the counting of wrong answers. */
final class Bench {
    private static int asked;
    private static int wrong;

    private Bench() {
    }

    interface Call {
        Object make();
    }

    static void due(String what, Object got, Object want) {
        asked++;
        if (!got.equals(want)) {
            wrong++;
            System.out.println(what + " answered " + got + ", due is " + want);
        }
    }

    /** A call must throw just this exception, and not one of a class below it that only the Java machine throws. */
    static void fails(String what, Class<? extends RuntimeException> kind, Call call) {
        asked++;
        try {
            Object got = call.make();
            wrong++;
            System.out.println(what + " answered " + got + ", due is " + kind.getSimpleName());
        } catch (RuntimeException e) {
            if (e.getClass() != kind) {
                wrong++;
                System.out.println(what + " threw " + e + ", due is " + kind.getSimpleName());
            }
        }
    }

    static void end() {
        System.out.println(asked + " answers asked, " + wrong + " of them wrong");
        if (wrong != 0) {
            System.exit(1);
        }
    }

    /** Adds instructions written as letters with operands, as in "i5 l0 + r". */
    static void write(Tracewheel x, int function, String text) {
        for (String word : text.trim().split(" +")) {
            x.code(function, word.charAt(0), word.length() > 1 ? Integer.parseInt(word.substring(1)) : 0);
        }
    }

    /** A machine with the given classes without parents, and functions told as "parameters: instructions". */
    static Tracewheel machine(int classes, String... functions) {
        Tracewheel x = new Tracewheel();
        for (int i = 0; i < classes; i++) {
            x.addClass(-1);
        }
        for (String function : functions) {
            x.addFunction(function.charAt(0) - '0');
        }
        for (int i = 0; i < functions.length; i++) {
            if (functions[i].length() > 2) {
                write(x, i, functions[i].substring(2));
            }
        }
        return x;
    }

    /** The end of the last run: kind and value, or "x", the failure's letter and its line. */
    static String ending(Tracewheel x) {
        if (x.outcome() == 'x') {
            return "x" + x.failure() + x.line();
        }
        return x.outcome() == '-' ? "-" : value(x.resultKind(), x.result());
    }

    static String value(char kind, long bits) {
        return kind + (kind == 'f' ? String.valueOf(Double.longBitsToDouble(bits)) : String.valueOf(bits));
    }

    /** Runs a function of its own with the argument 10, with two classes there, and tells how it ends. */
    static String ends(String text) {
        Tracewheel x = machine(2, "1: " + text);
        x.run(0, 10);
        return ending(x);
    }

    static String told(Tracewheel x) {
        List<String> all = new ArrayList<>();
        for (int i = 0; i < x.told(); i++) {
            all.add(value(x.toldKind(i), x.toldAt(i)));
        }
        return String.join(" ", all);
    }

    /** The guards of a trace, each as its step and its letter. */
    static String guards(Tracewheel x, int trace) {
        List<String> all = new ArrayList<>();
        for (int i = 0; i < x.guards(trace); i++) {
            all.add(x.guardStep(trace, i) + "" + x.guardAt(trace, i));
        }
        return String.join(" ", all);
    }

    static String lines(Tracewheel x, int trace) {
        List<String> all = new ArrayList<>();
        for (int i = 0; i < x.steps(trace); i++) {
            all.add(String.valueOf(x.lineAt(trace, i)));
        }
        return String.join(" ", all);
    }

    static String cache(Tracewheel x, int function, int index) {
        return x.cacheState(function, index) + " " + x.hits(function, index) + " " + x.misses(function, index);
    }
}
