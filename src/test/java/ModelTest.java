import java.lang.reflect.InvocationTargetException;
import java.lang.reflect.Method;
import java.util.ArrayList;
import java.util.HashMap;
import java.util.List;
import java.util.Map;
import java.util.Random;

/** Tells the same programs to the class and to the model, and compares every answer. */
public final class ModelTest {
    private static final int[] INTEGERS = {
        0, 0, 1, 1, 2, 3, 5, 7, -1, -2, -7, 10, 100, 46341, 65536, 1000003,
        Integer.MAX_VALUE, Integer.MIN_VALUE, Integer.MAX_VALUE - 1, Integer.MIN_VALUE + 1,
    };
    private static final Map<String, Method> METHODS = new HashMap<>();
    private static final Map<String, Integer> SEEN = new HashMap<>();

    private final Tracewheel wheel = new Tracewheel();
    private final Model model = new Model();
    private final Random random;
    private final StringBuilder story = new StringBuilder();
    private final List<StringBuilder> codes = new ArrayList<>();
    private final int[] lengths = new int[8];
    private int functions;
    private int classes;
    private boolean same = true;

    private ModelTest(long seed) {
        random = new Random(seed);
    }

    public static void main(String[] args) throws Exception {
        int rounds = args.length > 0 ? Integer.parseInt(args[0]) : 1000;
        long first = args.length > 1 ? Long.parseLong(args[1]) : 1;
        for (Class<?> c : new Class<?>[] {Tracewheel.class, Model.class}) {
            for (Method m : c.getDeclaredMethods()) {
                m.setAccessible(true);
                METHODS.put(c.getSimpleName() + m.getName(), m);
            }
        }
        int wrong = 0;
        for (int i = 0; i < rounds && wrong < 5; i++) {
            ModelTest test = new ModelTest(first + i);
            test.play((first + i) % 4 == 0);
            if (!test.same) {
                wrong++;
                System.out.println("seed " + (first + i) + ":\n" + test.story);
            }
        }
        for (String need : new String[] {"side", "thrown", "barred", "x", "guard k", "guard z", "guard o", "guard t",
                "guard s", "failure e", "failure s", "failure k", "failure 0", "failure w", "failure f", "failure m",
                "failure d", "failure o", "failure l", "float", "20 traces", "deep side", "undefined"}) {
            if (SEEN.getOrDefault(need, 0) == 0 && rounds >= 1000) {
                wrong++;
                System.out.println("no program has come to " + need);
            }
        }
        System.out.println(wrong == 0 ? "the class answers as the model does" : "the class and the model differ");
        if (wrong != 0) {
            System.exit(1);
        }
    }

    private static Object ask(Object whom, String name, Object... with) {
        try {
            return METHODS.get(whom.getClass().getSimpleName() + name).invoke(whom, with);
        } catch (InvocationTargetException e) {
            Throwable t = e.getCause();
            if (t instanceof AssertionError) {
                throw (AssertionError) t;
            }
            // the model may throw what lists throw; the class must not throw what only the Java machine throws
            boolean ofList = whom instanceof Model && t instanceof IndexOutOfBoundsException;
            return "throws " + (ofList ? "IndexOutOfBoundsException" : t.getClass().getSimpleName());
        } catch (IllegalAccessException e) {
            throw new IllegalStateException(e);
        }
    }

    /** Asks both; the answer of the model counts. */
    private Object both(String name, Object... with) {
        Object due = ask(model, name, with);
        Object got = ask(wheel, name, with);
        if (!due.equals(got)) {
            same = false;
            story.append(name).append(List.of(with)).append(" answered ").append(got).append(", due is ").append(due).append('\n');
        }
        return due;
    }

    private Object tell(String name, Object... with) {
        story.append(name).append(List.of(with)).append('\n');
        return both(name, with);
    }

    private void seen(String what) {
        SEEN.merge(what, 1, Integer::sum);
    }

    private int pick(int bound) {
        return random.nextInt(bound);
    }

    private int number() {
        return INTEGERS[pick(INTEGERS.length)];
    }

    private void play(boolean soup) {
        int startClasses = pick(6);
        for (int i = 0; i < startClasses; i++) {
            addClass();
        }
        int count = 1 + pick(4);
        for (int i = 0; i < count; i++) {
            addFunction(i == 0 || random.nextBoolean() ? 1 : pick(4));
        }
        if (pick(3) == 0) {
            limits();
        }
        boolean zoo = classes > 0 && count > 1 && pick(3) == 0 && model.functions.get(1).parameters == 1;
        if (zoo) {
            zoo(0, 1);
        }
        for (int i = zoo ? 2 : 0; i < count; i++) {
            if (soup) {
                soup(i);
            } else if (i == 0 || pick(3) == 0) {
                program(i);
            } else {
                expression(i, 2);
                emit(i, 'r', 0);
            }
        }
        for (int i = 0; i < startClasses * 2; i++) {
            tell("setMethod", pick(classes + 1), pick(3), pick(functions));
        }
        compare();
        boolean restless = pick(10) == 0;
        int actions = restless ? 120 : 6 + pick(30);
        for (int i = 0; i < actions && same; i++) {
            if (restless && i % 2 == 0) {
                tell("setCell", 0, i);
            }
            act();
        }
    }

    private void act() {
        int what = pick(20);
        if (what < 15) {
            tell("run", pick(3) == 0 ? pick(functions) : 0, pick(3) == 0 ? number() : pick(30));
        } else if (what == 15) {
            tell("setCell", pick(9) - (pick(9) == 0 ? 1 : 0), number());
        } else if (what == 16 && classes > 0) {
            tell("setMethod", pick(classes + 1), pick(4), pick(functions + 1));
        } else if (what == 17) {
            limits();
        } else if (what == 18) {
            change();
        }
        compare();
    }

    private void change() {
        int what = pick(4);
        if (what == 0) {
            addClass();
        } else if (what == 1) {
            tell("setHandler", pick(functions + 1), pick(41));
        } else if (what == 2) {
            addFunction(pick(5));
        } else {
            emit(pick(functions), "iklsud+-*/%<w=jzngpcmrtx".charAt(pick(24)), pick(7));
        }
    }

    private void limits() {
        tell("setLimits", 2 + pick(4), 1 + pick(3), pick(2) == 0 ? 10 + pick(40) : 60 + pick(141));
    }

    private void addClass() {
        Object got = tell("addClass", pick(classes + 2) - 1);
        if (got instanceof Integer) {
            classes++;
        }
    }

    private void addFunction(int parameters) {
        Object got = tell("addFunction", parameters);
        if (got instanceof Integer) {
            functions++;
        }
    }

    private int emit(int function, char letter, int operand) {
        Object got = tell("code", function, letter, operand);
        if (got instanceof Integer) {
            lengths[function] = (Integer) got;
        }
        return lengths[function];
    }

    /** Any instructions in any order: most of them fail soon, so that handlers are of use. */
    private void soup(int function) {
        int length = pick(41);
        for (int i = 0; i < length; i++) {
            char letter = "iiiikllllllssssuud+-*/%<w=jjzzngpcmrtt".charAt(pick(38));
            switch (letter) {
                case 'i': emit(function, letter, number()); break;
                case 'k': emit(function, letter, pick(3)); break;
                case 'l': case 's': emit(function, letter, pick(3)); break;
                case 'j': case 'z': emit(function, letter, pick(length)); break;
                case 'n': emit(function, letter, pick(3)); break;
                case 'g': case 'p': case 'm': emit(function, letter, pick(3)); break;
                case 'c': emit(function, letter, pick(functions)); break;
                default: emit(function, letter, 0);
            }
        }
        if (pick(2) == 0) {
            tell("setHandler", function, pick(40));
        }
    }

    /** Objects of many shapes and classes that are handed to one function, so that its caches give up. */
    private void zoo(int function, int user) {
        emit(function, 'i', number());
        emit(function, 's', 1);
        int head = lengths[function];
        for (int kinds = 2 + pick(3); kinds > 0; kinds--) {
            emit(function, 'n', pick(classes));
            for (int i = pick(3); i > 0; i--) {
                emit(function, 'u', 0);
                expression(function, 0);
                emit(function, 'p', pick(3));
            }
            emit(function, 'c', user);
            emit(function, pick(3) == 0 ? 't' : 'd', 0);
        }
        count(function, head);
        emit(function, 'l', 1);
        emit(function, 'r', 0);
        for (int i = 1 + pick(3); i > 0; i--) {
            emit(user, 'l', 0);
            emit(user, 'i', pick(9));
            emit(user, 'p', pick(2));
            emit(user, 'l', 0);
            emit(user, pick(2) == 0 ? 'm' : 'g', pick(2));
            emit(user, pick(3) == 0 ? 't' : 'd', 0);
        }
        emit(user, 'i', 1);
        emit(user, 'r', 0);
    }

    /** A loop that counts a local down, with other code in it: locals 0, 1 and 4 mostly hold numbers, 2 and 3 objects. */
    private void program(int function) {
        prelude(function);
        int head = lengths[function];
        int end = head + 4 + pick(19);
        if (pick(3) == 0) {
            emit(function, 'k', 0);
            emit(function, 's', 4);
        }
        while (lengths[function] < end && pick(9) != 0) {
            statement(function, 2);
        }
        count(function, head);
        expression(function, 1);
        if (pick(6) != 0) {
            emit(function, 'r', 0);
        }
        if (pick(5) == 0) {
            tell("setHandler", function, pick(3) == 0 ? pick(40) : pick(lengths[function]));
        }
    }

    private void prelude(int function) {
        if (pick(4) != 0) {
            emit(function, 'i', number());
            emit(function, 's', 1);
        }
        if (pick(4) == 0) {
            emit(function, 'l', pick(2));
            emit(function, 's', 4);
        }
        if (classes > 0) {
            emit(function, 'n', pick(classes));
            if (pick(2) == 0) {
                emit(function, 'u', 0);
                emit(function, 'l', 0);
                emit(function, 'p', pick(2));
            }
            emit(function, 's', 2);
            if (pick(2) == 0) {
                emit(function, 'l', 2);
                emit(function, 's', 3);
            }
        }
    }

    /** Counts down and jumps back, in one of several ways. */
    private void count(int function, int head) {
        int style = pick(4);
        emit(function, 'l', 0);
        emit(function, 'i', pick(12) == 0 ? number() : 1);
        emit(function, pick(12) == 0 ? "+-*/%".charAt(pick(5)) : '-', 0);
        if (style <= 1) {
            emit(function, 'u', 0);
            emit(function, 's', 0);
            emit(function, 'z', Math.min(39, lengths[function] + 2));
            emit(function, 'j', head);
        } else {
            emit(function, 's', 0);
            emit(function, 'l', 0);
            emit(function, 'i', style == 2 ? 1 : 0);
            emit(function, style == 2 ? '<' : '=', 0);
            emit(function, 'z', head);
        }
    }

    private void statement(int function, int depth) {
        switch (pick(15)) {
            case 14:
                emit(function, 'l', 1);
                emit(function, 'u', 0);
                emit(function, "****-/%".charAt(pick(7)), 0);
                emit(function, 's', pick(4) == 0 ? 4 : 1);
                break;
            case 0: case 1: case 2: case 3:
                emit(function, 'l', 1);
                expression(function, 1);
                emit(function, "++-**/%".charAt(pick(7)), 0);
                emit(function, 's', 1);
                break;
            case 4:
                expression(function, 1);
                emit(function, pick(4) == 0 ? 'd' : 't', 0);
                break;
            case 5: case 6:
                if (classes > 0) {
                    emit(function, 'l', 2 + pick(2));
                    expression(function, 1);
                    emit(function, 'p', pick(3));
                }
                break;
            case 7: case 8:
                if (classes > 0) {
                    emit(function, 'n', pick(classes));
                    for (int i = pick(3); i > 0; i--) {
                        emit(function, 'u', 0);
                        expression(function, 0);
                        emit(function, 'p', pick(3));
                    }
                    emit(function, 's', 2 + pick(2));
                }
                break;
            case 9:
                emit(function, 'l', pick(5));
                emit(function, 's', pick(8) == 0 ? pick(5) : 4);
                break;
            case 10: case 11:
                emit(function, 'l', pick(2));
                emit(function, 'i', 2 + pick(3));
                emit(function, '%', 0);
                emit(function, 'z', Math.min(39, lengths[function] + 2 + pick(6)));
                break;
            case 12:
                expression(function, 1);
                emit(function, 'z', pick(4) == 0 ? Math.max(0, lengths[function] - pick(10))
                        : Math.min(39, lengths[function] + 2 + pick(6)));
                break;
            default:
                if (depth > 0) {
                    statement(function, depth - 1);
                    statement(function, depth - 1);
                }
        }
    }

    private void expression(int function, int depth) {
        int what = pick(depth > 0 ? 17 : 6);
        switch (what) {
            case 0: case 1: emit(function, 'l', pick(2)); break;
            case 2: emit(function, 'l', pick(7) == 0 ? pick(6) : pick(2)); break;
            case 3: case 4: emit(function, 'i', number()); break;
            case 5: emit(function, 'k', pick(3)); break;
            case 6: case 7: case 8: case 9: case 10:
                expression(function, depth - 1);
                if (pick(8) == 0) {
                    emit(function, 'u', 0);
                } else {
                    expression(function, depth - 1);
                }
                emit(function, "++--**/%<=".charAt(pick(10)), 0);
                break;
            case 11:
                expression(function, depth - 1);
                emit(function, 'w', 0);
                break;
            case 12: {
                int to = pick(functions);
                for (int i = 0; i < model.functions.get(to).parameters; i++) {
                    expression(function, 0);
                }
                emit(function, 'c', to);
                break;
            }
            case 13: case 14:
                if (classes > 0) {
                    emit(function, 'l', 2 + pick(2));
                    emit(function, 'g', pick(2));
                } else {
                    emit(function, 'l', 0);
                }
                break;
            case 15:
                if (classes > 0) {
                    emit(function, 'l', 2 + pick(2));
                    emit(function, 'm', pick(3));
                } else {
                    emit(function, 'l', 0);
                }
                break;
            default:
                emit(function, 'i', pick(2));
        }
    }

    private void compare() {
        compareRun();
        compareShapes();
        compareCode();
        compareTraces();
    }

    private void compareRun() {
        Object outcome = both("outcome");
        both("resultKind");
        Object result = both("result");
        Object failure = both("failure");
        both("line");
        seen("outcome " + outcome);
        seen("failure " + failure);
        int told = (Integer) both("told");
        for (int i = -1; i <= told; i++) {
            Object kind = both("toldKind", i);
            Object value = both("toldAt", i);
            if (Character.valueOf('f').equals(kind)) {
                seen("float");
                if (value.equals(0x7ff8000000000000L)) {
                    seen("undefined");
                }
            }
        }
        if (result.equals(0x7ff8000000000000L)) {
            seen("undefined");
        }
        int objects = (Integer) both("objects");
        for (int i = -1; i <= objects; i++) {
            both("shapeOf", i);
            for (int name = -1; name <= 6; name++) {
                both("field", i, name);
            }
        }
        both("inTraces");
        both("codeSize");
        both("agrees");
        both("tracedShare");
        both("meanGuards");
        both("isSound");
    }

    private void compareShapes() {
        int shapes = (Integer) both("shapes");
        for (int i = -1; i <= shapes; i++) {
            both("fields", i);
            for (int name = -1; name <= 6; name++) {
                both("fieldAt", i, name);
                both("nextShape", i, name);
            }
        }
    }

    private void compareCode() {
        for (int function = -1; function <= functions; function++) {
            int end = function >= 0 && function < functions ? lengths[function] : 0;
            for (int index = -1; index <= 40; index = index >= end && index < 40 ? 40 : index + 1) {
                Object state = both("cacheState", function, index);
                seen(state.toString());
                both("hits", function, index);
                both("misses", function, index);
                both("counter", function, index);
                if (Boolean.TRUE.equals(both("isBarred", function, index))) {
                    seen("barred");
                }
            }
        }
    }

    private void compareTraces() {
        int traces = (Integer) both("traces");
        if (traces == 20) {
            seen("20 traces");
        }
        for (int i = -1; i <= traces; i++) {
            if (Boolean.FALSE.equals(both("isThere", i))) {
                seen("thrown");
            }
            Object steps = both("steps", i);
            for (int step = -1; step <= (steps instanceof Integer ? (Integer) steps : 0); step++) {
                both("lineAt", i, step);
            }
            Object guards = both("guards", i);
            for (int guard = -1; guard <= (guards instanceof Integer ? (Integer) guards : 0); guard++) {
                seen("guard " + both("guardAt", i, guard));
                both("guardStep", i, guard);
                both("exits", i, guard);
                Object side = both("sideOf", i, guard);
                if (side instanceof Integer) {
                    seen("side");
                    if (!both("rootOf", i).equals(i)) {
                        seen("deep side");
                    }
                }
            }
            both("rootOf", i);
            both("begun", i);
        }
    }
}
