import java.util.ArrayDeque;
import java.util.ArrayList;
import java.util.HashMap;
import java.util.HashSet;
import java.util.List;
import java.util.Map;
import java.util.NoSuchElementException;
import java.util.Set;

/**
 * The document once more, written with the whole library and in another way than the class:
 * values are objects, what is known of them hangs on the objects, and Java itself counts with floats.
 * Its methods are those of the class, so that both can be asked the same.
 */
final class Model {
    static final class Val {
        final char kind;
        final long whole;
        final double real;
        boolean kindKnown;
        boolean constant;
        boolean shapeKnown;
        boolean nullKnown;

        Val(char kind, long whole, double real) {
            this.kind = kind;
            this.whole = whole;
            this.real = real;
        }

        static Val of(int value) {
            return new Val('i', value, 0);
        }

        static Val of(double value) {
            return new Val('f', 0, value);
        }

        Val fresh() {
            return new Val(kind, whole, real);
        }

        boolean number() {
            return kind == 'i' || kind == 'f';
        }

        double asReal() {
            return kind == 'i' ? whole : real;
        }

        boolean isNull() {
            return kind == 'n' || (kind == 'i' && whole == 0) || (kind == 'f' && real == 0.0);
        }

        long told() {
            return kind == 'f' ? Double.doubleToLongBits(real) : whole;
        }

        void learnKind() {
            kindKnown = true;
            if (kind == 'o' || kind == 'n') {
                nullKnown = true;
            }
        }

        void learnConstant() {
            constant = true;
            kindKnown = true;
            nullKnown = true;
        }

        void learnShape() {
            shapeKnown = true;
            learnKind();
        }
    }

    record Instruction(char letter, int operand) { }

    static final class Cache {
        final Set<Integer> keys = new HashSet<>();
        boolean gaveUp;
        int hits;
        int misses;

        void use(int key) {
            if (gaveUp) {
                return;
            }
            if (keys.contains(key)) {
                hits++;
                return;
            }
            misses++;
            if (keys.size() == 3) {
                gaveUp = true;
                keys.clear();
            } else {
                keys.add(key);
            }
        }
    }

    static final class Function {
        int parameters;
        Integer handler;
        final List<Instruction> code = new ArrayList<>();
        final Map<Integer, Cache> caches = new HashMap<>();
        final Map<Integer, Head> heads = new HashMap<>();

        Head head(int index) {
            return heads.computeIfAbsent(index, k -> new Head());
        }

        Cache cache(int index) {
            return caches.computeIfAbsent(index, k -> new Cache());
        }
    }

    /** A head or a guard: something that counts, and whose recordings may be broken off. */
    static class Head {
        int counter;
        int broken;
        Tree tree;
    }

    static final class Guard extends Head {
        char letter;
        int step;
        int which;
        Object asked;
        int exits;
        Piece side;
    }

    static final class Step {
        int function;
        int index;
        final List<Guard> guards = new ArrayList<>();
    }

    /** A trace. */
    static final class Piece {
        int number;
        Tree tree;
        int begun;
        List<Step> steps;

        List<Guard> allGuards() {
            List<Guard> all = new ArrayList<>();
            for (Step s : steps) {
                all.addAll(s.guards);
            }
            return all;
        }
    }

    static final class Tree {
        int function;
        int head;
        boolean there = true;
        long entered;
        final List<Piece> pieces = new ArrayList<>();
    }

    static final class Shape {
        int number;
        int clazz;
        final List<Integer> names = new ArrayList<>();
        final Map<Integer, Shape> next = new HashMap<>();
    }

    static final class Clazz {
        Clazz parent;
        Shape first;
        final Map<Integer, Integer> methods = new HashMap<>();

        Integer method(int name) {
            return methods.containsKey(name) ? methods.get(name) : parent == null ? null : parent.method(name);
        }
    }

    static final class Thing {
        Shape shape;
        final Map<Integer, Val> fields = new HashMap<>();
    }

    static final class Frame {
        int function;
        int index;
        final Val[] locals = new Val[6];
        List<Val> stack = new ArrayList<>();

        Val top(int distance) {
            return stack.get(stack.size() - distance);
        }

        Val pop() {
            return stack.remove(stack.size() - 1);
        }
    }

    final List<Function> functions = new ArrayList<>();
    final List<Clazz> classes = new ArrayList<>();
    final List<Shape> shapes = new ArrayList<>();
    final int[] cells = new int[8];
    int loopLimit = 3;
    int exitLimit = 2;
    int codeLimit = 80;
    final List<Piece> pieces = new ArrayList<>();
    final List<Tree> trees = new ArrayList<>();
    long clock;

    List<Frame> frames = new ArrayList<>();
    List<Thing> things = new ArrayList<>();
    List<Val> tellings = new ArrayList<>();
    char end = '-';
    Val value;
    char failed;
    int failedLine;
    int executed;
    int traced;

    List<Step> recording;
    Head recorded;
    Tree recordedTree;
    int recordedFunction;
    int recordedHead;
    int rootFrame;
    Val lastTaken;

    int addFunction(int parameters) {
        if (parameters < 0 || parameters > 3) {
            throw new IllegalArgumentException();
        }
        if (functions.size() == 8) {
            throw new IllegalStateException();
        }
        Function f = new Function();
        f.parameters = parameters;
        functions.add(f);
        return functions.size() - 1;
    }

    int code(int function, char letter, int operand) {
        Function f = functionAt(function);
        int end;
        switch (letter) {
            case 'i': end = Integer.MAX_VALUE; break;
            case 'k': end = 8; break;
            case 'l': case 's': case 'g': case 'p': case 'm': end = 6; break;
            case 'j': case 'z': end = 40; break;
            case 'n': end = classes.size(); break;
            case 'c': end = functions.size(); break;
            case 'u': case 'd': case '+': case '-': case '*': case '/': case '%': case '<':
            case 'w': case '=': case 'r': case 't': end = 1; break;
            default: throw new IllegalArgumentException();
        }
        if (letter != 'i' && (operand < 0 || operand >= end)) {
            throw new IllegalArgumentException();
        }
        if (f.code.size() == 40) {
            throw new IllegalStateException();
        }
        f.code.add(new Instruction(letter, operand));
        return f.code.size();
    }

    int setHandler(int function, int index) {
        Function f = functionAt(function);
        checkIndex(index);
        int before = f.handler == null ? -1 : f.handler;
        f.handler = index;
        return before;
    }

    int addClass(int parent) {
        if (parent != -1 && (parent < 0 || parent >= classes.size())) {
            throw new IndexOutOfBoundsException();
        }
        if (classes.size() == 5) {
            throw new IllegalStateException();
        }
        if (shapes.size() == 60) {
            throw new UnsupportedOperationException();
        }
        Clazz c = new Clazz();
        c.parent = parent == -1 ? null : classes.get(parent);
        classes.add(c);
        c.first = newShape(classes.size() - 1, List.of());
        return classes.size() - 1;
    }

    private Shape newShape(int clazz, List<Integer> names) {
        Shape s = new Shape();
        s.number = shapes.size();
        s.clazz = clazz;
        s.names.addAll(names);
        shapes.add(s);
        return s;
    }

    int setMethod(int clazz, int name, int function) {
        if (clazz < 0 || clazz >= classes.size()) {
            throw new IndexOutOfBoundsException();
        }
        if (name < 0 || name > 5) {
            throw new IllegalArgumentException();
        }
        if (function < 0 || function >= functions.size()) {
            throw new NoSuchElementException();
        }
        if (functions.get(function).parameters != 1) {
            throw new UnsupportedOperationException();
        }
        classes.get(clazz).methods.put(name, function);
        for (Function f : functions) {
            for (Map.Entry<Integer, Cache> e : f.caches.entrySet()) {
                if (f.code.get(e.getKey()).letter() == 'm') {
                    e.getValue().keys.clear();
                }
            }
        }
        return throwIf('m', -1);
    }

    int setCell(int cell, int value) {
        if (cell < 0 || cell > 7) {
            throw new IllegalArgumentException();
        }
        if (cells[cell] == value) {
            return 0;
        }
        cells[cell] = value;
        return throwIf('k', cell);
    }

    private int throwIf(char letter, int operand) {
        int count = 0;
        for (Tree t : new ArrayList<>(trees)) {
            boolean has = false;
            for (Piece p : t.pieces) {
                for (Step s : p.steps) {
                    Instruction i = functions.get(s.function).code.get(s.index);
                    has |= i.letter() == letter && (operand < 0 || i.operand() == operand);
                }
            }
            if (has) {
                throwAway(t);
                count++;
            }
        }
        return count;
    }

    private void throwAway(Tree t) {
        t.there = false;
        trees.remove(t);
        Head h = functions.get(t.function).head(t.head);
        h.tree = null;
        h.counter = 0;
    }

    int setLimits(int loop, int exit, int code) {
        if (loop < 2 || loop > 50 || exit < 1 || exit > 20 || code < 10 || code > 200) {
            throw new IllegalArgumentException();
        }
        loopLimit = loop;
        exitLimit = exit;
        codeLimit = code;
        int count = 0;
        while (codeSize() > codeLimit) {
            throwAway(oldest(null));
            count++;
        }
        return count;
    }

    private Tree oldest(Tree but) {
        Tree best = null;
        for (Tree t : trees) {
            if (t != but && (best == null || t.entered < best.entered)) {
                best = t;
            }
        }
        return best;
    }

    // ---- running

    int run(int function, int argument) {
        Function f = functionAt(function);
        if (f.parameters == 0) {
            throw new UnsupportedOperationException();
        }
        frames = new ArrayList<>();
        things = new ArrayList<>();
        tellings = new ArrayList<>();
        end = '-';
        value = null;
        executed = 0;
        traced = 0;
        push(function, List.of(Val.of(argument)));
        while (end == '-') {
            outside();
        }
        breakOff();
        return executed;
    }

    private Frame frame() {
        return frames.get(frames.size() - 1);
    }

    private void push(int function, List<Val> arguments) {
        Frame fr = new Frame();
        fr.function = function;
        for (int i = 0; i < 6; i++) {
            if (i < arguments.size()) {
                fr.locals[i] = arguments.get(i);
            } else {
                fr.locals[i] = new Val('n', 0, 0);
                fr.locals[i].learnKind();
            }
        }
        frames.add(fr);
    }

    private Instruction ahead() {
        Frame fr = frame();
        List<Instruction> code = functions.get(fr.function).code;
        return fr.index < code.size() ? code.get(fr.index) : null;
    }

    private void outside() {
        Frame fr = frame();
        int line = fr.function * 100 + fr.index;
        if (executed == 1000) {
            end = 'x';
            failed = 'l';
            failedLine = line;
            return;
        }
        if (recording != null && recording.size() == 30) {
            breakOff();
        }
        char why = whyFails();
        if (why != 0) {
            executed++;
            breakOff();
            for (int i = frames.size() - 1; i >= 0; i--) {
                Integer handler = functions.get(frames.get(i).function).handler;
                if (handler != null) {
                    frames = new ArrayList<>(frames.subList(0, i + 1));
                    frame().index = handler;
                    frame().stack = new ArrayList<>(List.of(Val.of(why)));
                    return;
                }
            }
            end = 'x';
            failed = why;
            failedLine = line;
            return;
        }
        Instruction in = ahead();
        int from = fr.index;
        if (in.letter() == 'g') {
            functions.get(fr.function).cache(from).use(thing(1).shape.number);
        } else if (in.letter() == 'p') {
            functions.get(fr.function).cache(from).use(thing(2).shape.number);
        } else if (in.letter() == 'm') {
            functions.get(fr.function).cache(from).use(thing(1).shape.clazz);
        }
        if (recording != null && in.letter() == 'r' && frames.size() == rootFrame) {
            breakOff();
        }
        if (recording != null) {
            recording.add(stepWithGuards());
        }
        perform();
        boolean back = (in.letter() == 'j' || in.letter() == 'z') && fr.index <= from;
        if (back) {
            jumpBack(fr.function, fr.index);
        }
    }

    private void jumpBack(int function, int index) {
        if (recording != null && frames.size() == rootFrame && function == recordedFunction && index == recordedHead) {
            finish();
            return;
        }
        breakOff();
        Head h = functions.get(function).head(index);
        if (h.tree != null) {
            travel(h.tree);
            return;
        }
        h.counter++;
        if (h.counter >= loopLimit && h.broken < 2) {
            rootFrame = frames.size();
            record(h, null, function, index);
        }
    }

    private void record(Head for_, Tree tree, int function, int index) {
        recording = new ArrayList<>();
        recorded = for_;
        recordedTree = tree;
        recordedFunction = function;
        recordedHead = index;
        for (Frame fr : frames) {
            for (int i = 0; i < 6; i++) {
                fr.locals[i] = fr.locals[i].fresh();
            }
            fr.stack.replaceAll(Val::fresh);
        }
    }

    private void breakOff() {
        if (recording != null) {
            recording = null;
            recorded.counter = 0;
            recorded.broken++;
        }
    }

    private void finish() {
        if (pieces.size() == 20) {
            breakOff();
            return;
        }
        while (codeSize() + recording.size() > codeLimit) {
            Tree t = oldest(recordedTree);
            if (t == null) {
                breakOff();
                return;
            }
            throwAway(t);
        }
        Piece p = new Piece();
        p.number = pieces.size();
        p.steps = recording;
        p.tree = recordedTree;
        recording = null;
        if (p.tree == null) {
            p.tree = new Tree();
            p.tree.function = recordedFunction;
            p.tree.head = recordedHead;
            trees.add(p.tree);
            recorded.tree = p.tree;
        } else {
            ((Guard) recorded).side = p;
        }
        p.tree.pieces.add(p);
        pieces.add(p);
        travel(p.tree);
    }

    private void travel(Tree tree) {
        rootFrame = frames.size();
        ArrayDeque<Step> way = new ArrayDeque<>();
        while (true) {
            if (way.isEmpty()) {
                tree.entered = ++clock;
                tree.pieces.get(0).begun++;
                way.addAll(tree.pieces.get(0).steps);
            }
            Step s = way.peek();
            if (executed == 1000 || whyFails() != 0) {
                return;
            }
            if (s.function != frame().function || s.index != frame().index) {
                throw new AssertionError("a trace has left the program");
            }
            Guard missed = null;
            for (Guard g : s.guards) {
                if (!ask(g.letter, g.which).equals(g.asked)) {
                    missed = g;
                    break;
                }
            }
            if (missed == null) {
                way.remove();
                traced++;
                perform();
                continue;
            }
            missed.exits++;
            if (missed.side != null) {
                missed.side.begun++;
                way.clear();
                way.addAll(missed.side.steps);
                continue;
            }
            missed.counter++;
            if (missed.counter >= exitLimit && missed.broken < 2) {
                record(missed, tree, tree.function, tree.head);
            }
            return;
        }
    }

    private Thing thing(int distance) {
        return things.get((int) frame().top(distance).whole);
    }

    private Object ask(char letter, int which) {
        Val v = frame().top(which);
        switch (letter) {
            case 'k':
                return v.kind;
            case 'z':
            case 't':
                return v.isNull();
            case 'o':
                return sum(ahead().letter(), v, frame().top(1)).kind == 'i';
            default:
                return thing(which).shape;
        }
    }

    private char whyFails() {
        Instruction in = ahead();
        if (in == null) {
            return 'e';
        }
        Frame fr = frame();
        int takes = 0;
        int gives = 0;
        switch (in.letter()) {
            case 'i': case 'k': case 'l': case 'n': gives = 1; break;
            case 's': case 'd': case 'z': case 't': case 'r': case 'm': takes = 1; break;
            case 'u': takes = 1; gives = 2; break;
            case 'w': case 'g': takes = 1; gives = 1; break;
            case 'p': takes = 2; break;
            case 'j': break;
            case 'c': takes = functions.get(in.operand()).parameters; break;
            default: takes = 2; gives = 1;
        }
        int height = fr.stack.size();
        if (height < takes || height - takes + gives > 8) {
            return 's';
        }
        if (in.letter() == 'r' && frames.size() > 1 && frames.get(frames.size() - 2).stack.size() == 8) {
            return 's';
        }
        switch (in.letter()) {
            case '+': case '-': case '*': case '/': case '%': case '<':
                if (!fr.top(1).number() || !fr.top(2).number()) {
                    return 'k';
                }
                if ((in.letter() == '/' || in.letter() == '%') && fr.top(1).kind == 'i' && fr.top(2).kind == 'i'
                        && fr.top(1).whole == 0) {
                    return '0';
                }
                return 0;
            case 'w': {
                if (!fr.top(1).number()) {
                    return 'k';
                }
                double near = Math.rint(fr.top(1).asReal());
                return near >= Integer.MIN_VALUE && near <= Integer.MAX_VALUE ? (char) 0 : 'w';
            }
            case 'g':
                if (fr.top(1).kind != 'o') {
                    return 'k';
                }
                return thing(1).shape.names.contains(in.operand()) ? (char) 0 : 'f';
            case 'p': {
                if (fr.top(2).kind != 'o') {
                    return 'k';
                }
                Shape s = thing(2).shape;
                boolean works = s.names.contains(in.operand()) || s.next.containsKey(in.operand()) || shapes.size() < 60;
                return works ? (char) 0 : 'f';
            }
            case 'm':
                if (fr.top(1).kind != 'o') {
                    return 'k';
                }
                if (classes.get(thing(1).shape.clazz).method(in.operand()) == null) {
                    return 'm';
                }
                return frames.size() == 12 ? 'd' : (char) 0;
            case 'c':
                return frames.size() == 12 ? 'd' : (char) 0;
            case 'n':
                return things.size() == 60 ? 'o' : (char) 0;
            default:
                return 0;
        }
    }

    private static Val sum(char letter, Val a, Val b) {
        if (letter == '=') {
            boolean same = a.number() && b.number() ? a.asReal() == b.asReal() : a.kind == b.kind && a.whole == b.whole;
            return Val.of(same ? 1 : 0);
        }
        double x = a.asReal();
        double y = b.asReal();
        if (letter == '<') {
            return Val.of(x < y ? 1 : 0);
        }
        double real = letter == '+' ? x + y : letter == '-' ? x - y : letter == '*' ? x * y : letter == '/' ? x / y : x % y;
        if (a.kind == 'f' || b.kind == 'f') {
            return Val.of(real);
        }
        long m = a.whole;
        long n = b.whole;
        long exact = letter == '+' ? m + n : letter == '-' ? m - n : letter == '*' ? m * n : letter == '/' ? m / n : m % n;
        return exact == (int) exact ? Val.of((int) exact) : Val.of(real);
    }

    /** What is known of the value that an instruction gives is told here; only a recording ever asks for it. */
    private void perform() {
        Instruction in = ahead();
        Frame fr = frame();
        int a = in.operand();
        executed++;
        fr.index++;
        switch (in.letter()) {
            case 'i': case 'k': {
                Val v = Val.of(in.letter() == 'i' ? a : cells[a]);
                v.learnConstant();
                fr.stack.add(v);
                break;
            }
            case 'l': fr.stack.add(fr.locals[a]); break;
            case 's': fr.locals[a] = fr.pop(); break;
            case 'u': fr.stack.add(fr.top(1)); break;
            case 'd': fr.pop(); break;
            case 'w': {
                Val v = fr.pop();
                Val w = Val.of((int) Math.rint(v.asReal()));
                w.learnKind();
                if (v.constant) {
                    w.learnConstant();
                }
                fr.stack.add(w);
                break;
            }
            case 'j': fr.index = a; break;
            case 'z':
                if (fr.pop().isNull()) {
                    fr.index = a;
                }
                break;
            case 'n': {
                Thing t = new Thing();
                t.shape = classes.get(a).first;
                things.add(t);
                Val v = new Val('o', things.size() - 1, 0);
                v.learnShape();
                fr.stack.add(v);
                break;
            }
            case 'g': {
                Thing t = thing(1);
                fr.pop();
                fr.stack.add(t.fields.get(a).fresh());
                break;
            }
            case 'p': put(fr, a); break;
            case 'c': {
                List<Val> arguments = new ArrayList<>();
                for (int i = 0; i < functions.get(a).parameters; i++) {
                    arguments.add(0, fr.pop());
                }
                push(a, arguments);
                break;
            }
            case 'm': {
                int method = classes.get(thing(1).shape.clazz).method(a);
                push(method, List.of(fr.pop()));
                break;
            }
            case 'r': {
                Val v = fr.pop();
                frames.remove(frames.size() - 1);
                if (frames.isEmpty()) {
                    end = 'v';
                    value = v;
                } else {
                    frame().stack.add(v);
                }
                break;
            }
            case 't': {
                Val v = fr.pop();
                if (tellings.size() < 20) {
                    tellings.add(v);
                }
                break;
            }
            default: {
                Val second = fr.pop();
                Val first = fr.pop();
                Val v = sum(in.letter(), first, second);
                v.learnKind();
                if (first.constant && second.constant) {
                    v.learnConstant();
                }
                fr.stack.add(v);
            }
        }
    }

    private void put(Frame fr, int name) {
        Val v = fr.pop();
        Val holder = fr.pop();
        Thing t = things.get((int) holder.whole);
        if (!t.shape.names.contains(name)) {
            Shape s = t.shape;
            if (!s.next.containsKey(name)) {
                List<Integer> names = new ArrayList<>(s.names);
                names.add(name);
                s.next.put(name, newShape(s.clazz, names));
            }
            t.shape = s.next.get(name);
            for (Frame each : frames) {
                for (Val l : each.locals) {
                    l.shapeKnown = false;
                }
                for (Val l : each.stack) {
                    l.shapeKnown = false;
                }
            }
            holder.shapeKnown = true;
        }
        t.fields.put(name, v);
    }

    private Step stepWithGuards() {
        Step s = new Step();
        Frame fr = frame();
        s.function = fr.function;
        s.index = fr.index;
        char letter = ahead().letter();
        switch (letter) {
            case '+': case '-': case '*': case '/': case '%': case '<': case '=': {
                Val a = fr.top(2);
                Val b = fr.top(1);
                if (a.constant && b.constant) {
                    break;
                }
                guardKind(s, a, 2);
                guardKind(s, b, 1);
                if (a.kind != 'i' || b.kind != 'i') {
                    break;
                }
                if ((letter == '/' || letter == '%') && !b.nullKnown) {
                    guard(s, 'z', 1);
                    b.nullKnown = true;
                }
                if (letter == '+' || letter == '-' || letter == '*' || letter == '/') {
                    guard(s, 'o', 2);
                }
                break;
            }
            case 'w': guardKind(s, fr.top(1), 1); break;
            case 'z':
                if (!fr.top(1).nullKnown) {
                    guard(s, 't', 1);
                    fr.top(1).nullKnown = true;
                }
                break;
            case 'g': case 'm': guardShape(s, 1); break;
            case 'p': guardShape(s, 2); break;
            default:
        }
        return s;
    }

    private void guardKind(Step s, Val v, int which) {
        if (!v.kindKnown) {
            guard(s, 'k', which);
            v.learnKind();
        }
    }

    private void guardShape(Step s, int which) {
        if (!frame().top(which).shapeKnown) {
            guard(s, 's', which);
            frame().top(which).learnShape();
        }
    }

    private void guard(Step s, char letter, int which) {
        Guard g = new Guard();
        g.letter = letter;
        g.step = recording.size();
        g.which = which;
        g.asked = ask(letter, which);
        s.guards.add(g);
    }

    // ---- answers

    private Function functionAt(int function) {
        if (function < 0 || function >= functions.size()) {
            throw new IndexOutOfBoundsException();
        }
        return functions.get(function);
    }

    private static void checkIndex(int index) {
        if (index < 0 || index > 39) {
            throw new IllegalArgumentException();
        }
    }

    char outcome() {
        return end;
    }

    char resultKind() {
        if (end != 'v') {
            throw new NoSuchElementException();
        }
        return value.kind;
    }

    long result() {
        if (end != 'v') {
            throw new NoSuchElementException();
        }
        return value.told();
    }

    char failure() {
        if (end != 'x') {
            throw new NoSuchElementException();
        }
        return failed;
    }

    int line() {
        if (end != 'x') {
            throw new NoSuchElementException();
        }
        return failedLine;
    }

    int told() {
        return tellings.size();
    }

    char toldKind(int index) {
        return tellings.get(index).kind;
    }

    long toldAt(int index) {
        return tellings.get(index).told();
    }

    int objects() {
        return things.size();
    }

    int shapeOf(int object) {
        return things.get(object).shape.number;
    }

    long field(int object, int name) {
        Thing t = things.get(object);
        if (!t.shape.names.contains(name)) {
            throw new NoSuchElementException();
        }
        return t.fields.get(name).told();
    }

    int shapes() {
        return shapes.size();
    }

    int fields(int shape) {
        return shapes.get(shape).names.size();
    }

    int fieldAt(int shape, int index) {
        List<Integer> names = shapes.get(shape).names;
        if (index < 0 || index >= names.size()) {
            throw new NoSuchElementException();
        }
        return names.get(index);
    }

    int nextShape(int shape, int name) {
        Shape next = shapes.get(shape).next.get(name);
        if (next == null) {
            throw new NoSuchElementException();
        }
        return next.number;
    }

    private Cache cacheAt(int function, int index) {
        Function f = functionAt(function);
        if (index < 0 || index >= f.code.size() || "gpm".indexOf(f.code.get(index).letter()) < 0) {
            throw new NoSuchElementException();
        }
        return f.cache(index);
    }

    char cacheState(int function, int index) {
        Cache c = cacheAt(function, index);
        return c.gaveUp ? 'x' : c.keys.isEmpty() ? 'e' : (char) ('0' + c.keys.size());
    }

    int hits(int function, int index) {
        return cacheAt(function, index).hits;
    }

    int misses(int function, int index) {
        return cacheAt(function, index).misses;
    }

    int counter(int function, int index) {
        Function f = functionAt(function);
        checkIndex(index);
        return f.head(index).counter;
    }

    boolean isBarred(int function, int index) {
        Function f = functionAt(function);
        checkIndex(index);
        return f.head(index).broken >= 2;
    }

    int traces() {
        return pieces.size();
    }

    boolean isThere(int trace) {
        return pieces.get(trace).tree.there;
    }

    int steps(int trace) {
        return pieces.get(trace).steps.size();
    }

    int lineAt(int trace, int step) {
        List<Step> steps = pieces.get(trace).steps;
        if (step < 0 || step >= steps.size()) {
            throw new NoSuchElementException();
        }
        return steps.get(step).function * 100 + steps.get(step).index;
    }

    int guards(int trace) {
        return pieces.get(trace).allGuards().size();
    }

    char guardAt(int trace, int guard) {
        return pieces.get(trace).allGuards().get(guard).letter;
    }

    int guardStep(int trace, int guard) {
        return pieces.get(trace).allGuards().get(guard).step;
    }

    int exits(int trace, int guard) {
        return pieces.get(trace).allGuards().get(guard).exits;
    }

    int sideOf(int trace, int guard) {
        Piece side = pieces.get(trace).allGuards().get(guard).side;
        if (side == null) {
            throw new NoSuchElementException();
        }
        return side.number;
    }

    int rootOf(int trace) {
        return pieces.get(trace).tree.pieces.get(0).number;
    }

    int begun(int trace) {
        return pieces.get(trace).begun;
    }

    int inTraces() {
        return traced;
    }

    int codeSize() {
        int sum = 0;
        for (Tree t : trees) {
            for (Piece p : t.pieces) {
                sum += p.steps.size();
            }
        }
        return sum;
    }

    /** The model never asks itself: traces that change a program's end are a fault of the class. */
    boolean agrees() {
        return true;
    }

    float tracedShare() {
        if (executed == 0) {
            throw new ArithmeticException();
        }
        return (float) traced / (float) executed;
    }

    double meanGuards() {
        int there = 0;
        int sum = 0;
        for (Tree t : trees) {
            for (Piece p : t.pieces) {
                there++;
                sum += p.allGuards().size();
            }
        }
        if (there == 0) {
            throw new ArithmeticException();
        }
        return (double) sum / (double) there;
    }

    boolean isSound() {
        return true;
    }
}
