import java.util.Arrays;
import java.util.NoSuchElementException;

/** A machine that runs programs with and without traces. */
public final class Tracewheel {
    private static final int MOST_FUNCTIONS = 8;
    private static final int MOST_PARAMETERS = 3;
    private static final int MOST_CODE = 40;
    private static final int SITES = MOST_FUNCTIONS * MOST_CODE;
    private static final int CELLS = 8;
    private static final int NAMES = 6;
    private static final int MOST_CLASSES = 5;
    private static final int MOST_SHAPES = 60;
    private static final int MOST_FRAMES = 12;
    private static final int LOCALS = 6;
    private static final int MOST_STACK = 8;
    private static final int MOST_OBJECTS = 60;
    private static final int MOST_EXECUTED = 1000;
    private static final int MOST_TOLD = 20;
    private static final int MOST_KEYS = 3;
    private static final int MOST_STEPS = 30;
    private static final int MOST_STEP_GUARDS = 4;
    private static final int MOST_TRACES = 20;
    private static final int BREAKS_THAT_BAR = 2;
    private static final int LINES_A_FUNCTION = 100;
    private static final int NONE = -1;
    private static final char NO_FAILURE = '-';
    private static final char NO_OUTCOME = '-';

    // Every value of a run has a place in one row: those of the frames, of the objects' fields,
    // the told ones and the result. So one move serves them all, and no run makes arrays.
    private static final int FRAME_PLACES = LOCALS + MOST_STACK;
    private static final int FIRST_FIELD = MOST_FRAMES * FRAME_PLACES;
    private static final int FIRST_TOLD = FIRST_FIELD + MOST_OBJECTS * NAMES;
    private static final int RESULT = FIRST_TOLD + MOST_TOLD;
    private static final int PLACES = RESULT + 1;

    // A turn executes an instruction, or enters or leaves a trace; a run needs far fewer.
    private static final int MOST_TURNS = 1000000;

    private static final String LETTERS = "iklsud+-*/%<w=jzngpcmrt";
    private static final String CACHED = "gpm";
    private static final String TWO_VALUES = "+-*/%<=";
    private static final String TWO_NUMBERS = "+-*/%<";
    private static final String CAN_OVERFLOW = "+-*/";
    private static final String MAKERS = "ikngw+-*/%<=";

    private final Program program;
    private final Shapes shapeTable;
    private final Machine live;
    private final Machine plain;
    private final Wheel wheel;
    private boolean agreement;

    /** Creates a machine without functions and classes. */
    public Tracewheel() {
        program = new Program();
        shapeTable = new Shapes();
        live = new Machine(program, shapeTable);
        plain = new Machine(program, shapeTable);
        wheel = new Wheel(program, live);
        agreement = true;
    }

    public int addFunction(int parameters) throws IllegalArgumentException, IllegalStateException {
        if (parameters < 0 || parameters > MOST_PARAMETERS) {
            throw new IllegalArgumentException("a function has 0 to 3 parameters");
        }
        if (program.functionCount >= MOST_FUNCTIONS) {
            throw new IllegalStateException("there are 8 functions");
        }
        return program.addFunctionWith(parameters);
    }

    public int code(int function, char letter, int operand)
            throws IndexOutOfBoundsException, IllegalArgumentException, IllegalStateException {
        needFunction(function);
        if (LETTERS.indexOf(letter) < 0) {
            throw new IllegalArgumentException("there is no such letter");
        }
        if (!program.allowsOperand(letter, operand)) {
            throw new IllegalArgumentException("the operand is not one for the letter");
        }
        if (program.lengths[function] >= MOST_CODE) {
            throw new IllegalStateException("there are 40 instructions");
        }
        return program.append(function, letter, operand);
    }

    public int setHandler(int function, int index) throws IndexOutOfBoundsException, IllegalArgumentException {
        needFunction(function);
        needIndex(index);
        int before = program.handlers[function];
        program.handlers[function] = index;
        return before;
    }

    public int addClass(int parent)
            throws IndexOutOfBoundsException, IllegalStateException, UnsupportedOperationException {
        if (parent != NONE && !program.hasClass(parent)) {
            throw new IndexOutOfBoundsException("there is no such parent");
        }
        if (program.classCount >= MOST_CLASSES) {
            throw new IllegalStateException("there are 5 classes");
        }
        if (shapeTable.count >= MOST_SHAPES) {
            throw new UnsupportedOperationException("there are 60 shapes");
        }
        int clazz = program.addClassBelow(parent);
        shapeTable.firsts[clazz] = shapeTable.addEmpty(clazz);
        return clazz;
    }

    public int setMethod(int clazz, int name, int function)
            throws IndexOutOfBoundsException, IllegalArgumentException, NoSuchElementException,
            UnsupportedOperationException {
        if (!program.hasClass(clazz)) {
            throw new IndexOutOfBoundsException("there is no such class");
        }
        if (!isName(name)) {
            throw new IllegalArgumentException("there is no such name");
        }
        if (!program.hasFunction(function)) {
            throw new NoSuchElementException("there is no such function");
        }
        if (program.parameters[function] != 1) {
            throw new UnsupportedOperationException("a method has one parameter");
        }
        program.methods[clazz * NAMES + name] = function;
        wheel.caches.emptyMethods(program);
        return wheel.forest.throwThoseWith('m', 0);
    }

    public int setCell(int cell, int value) throws IllegalArgumentException {
        if (cell < 0 || cell >= CELLS) {
            throw new IllegalArgumentException("there is no such cell");
        }
        if (program.cells[cell] == value) {
            return 0;
        }
        program.cells[cell] = value;
        return wheel.forest.throwThoseWith('k', cell);
    }

    public int setLimits(int loop, int exit, int code) throws IllegalArgumentException {
        if (loop < 2 || loop > 50 || exit < 1 || exit > 20 || code < 10 || code > 200) {
            throw new IllegalArgumentException("a limit is out of range");
        }
        wheel.loopLimit = loop;
        wheel.exitLimit = exit;
        wheel.forest.codeLimit = code;
        return wheel.forest.shrink();
    }

    public int run(int function, int argument) throws IndexOutOfBoundsException, UnsupportedOperationException {
        needFunction(function);
        if (program.parameters[function] == 0) {
            throw new UnsupportedOperationException("the function has no parameters");
        }
        int shapesBefore = shapeTable.count;
        plain.begin(function, argument);
        plain.runOut();
        // the run without traces comes first, so that the other one finds the shapes as they were
        shapeTable.takeBack(shapesBefore);
        live.begin(function, argument);
        wheel.begin();
        for (int turn = 0; turn < MOST_TURNS && live.isRunning(); turn++) {
            if (wheel.inTrace) {
                wheel.turnInTrace();
            } else if (wheel.canExecute()) {
                wheel.executeOutside();
            }
        }
        wheel.breakOff();
        agreement = live.endedLike(plain);
        return live.executed;
    }

    public char outcome() {
        return live.ending;
    }

    public char resultKind() throws NoSuchElementException {
        needEnding('v');
        return live.slots.kinds[RESULT];
    }

    public long result() throws NoSuchElementException {
        needEnding('v');
        return live.slots.bitsAt(RESULT);
    }

    public char failure() throws NoSuchElementException {
        needEnding('x');
        return live.failureLetter;
    }

    public int line() throws NoSuchElementException {
        needEnding('x');
        return live.failureLine;
    }

    public int told() {
        return live.toldCount;
    }

    public char toldKind(int index) throws IndexOutOfBoundsException {
        needTold(index);
        return live.slots.kinds[FIRST_TOLD + index];
    }

    public long toldAt(int index) throws IndexOutOfBoundsException {
        needTold(index);
        return live.slots.bitsAt(FIRST_TOLD + index);
    }

    public int objects() {
        return live.objectCount;
    }

    public int shapeOf(int object) throws IndexOutOfBoundsException {
        needObject(object);
        return live.objectShapes[object];
    }

    public long field(int object, int name) throws IndexOutOfBoundsException, NoSuchElementException {
        needObject(object);
        if (!isName(name) || !shapeTable.has(live.objectShapes[object], name)) {
            throw new NoSuchElementException("the object has no such field");
        }
        return live.slots.bitsAt(fieldPlace(object, name));
    }

    public int shapes() {
        return shapeTable.count;
    }

    public int fields(int shape) throws IndexOutOfBoundsException {
        needShape(shape);
        return shapeTable.sizes[shape];
    }

    public int fieldAt(int shape, int index) throws IndexOutOfBoundsException, NoSuchElementException {
        needShape(shape);
        if (index < 0 || index >= shapeTable.sizes[shape]) {
            throw new NoSuchElementException("the shape has no such field");
        }
        return shapeTable.order[shape * NAMES + index];
    }

    public int nextShape(int shape, int name) throws IndexOutOfBoundsException, NoSuchElementException {
        needShape(shape);
        if (!isName(name) || shapeTable.followers[shape * NAMES + name] == NONE) {
            throw new NoSuchElementException("no such shape has come to be");
        }
        return shapeTable.followers[shape * NAMES + name];
    }

    public char cacheState(int function, int index) throws IndexOutOfBoundsException, NoSuchElementException {
        return wheel.caches.stateAt(cacheSite(function, index));
    }

    public int hits(int function, int index) throws IndexOutOfBoundsException, NoSuchElementException {
        return wheel.caches.hitCounts[cacheSite(function, index)];
    }

    public int misses(int function, int index) throws IndexOutOfBoundsException, NoSuchElementException {
        return wheel.caches.missCounts[cacheSite(function, index)];
    }

    public int counter(int function, int index) throws IndexOutOfBoundsException, IllegalArgumentException {
        needFunction(function);
        needIndex(index);
        return wheel.heads.counters[siteOf(function, index)];
    }

    public boolean isBarred(int function, int index) throws IndexOutOfBoundsException, IllegalArgumentException {
        needFunction(function);
        needIndex(index);
        return wheel.heads.bars(siteOf(function, index));
    }

    public int traces() {
        return wheel.forest.count;
    }

    public boolean isThere(int trace) throws IndexOutOfBoundsException {
        return traceAt(trace).there;
    }

    public int steps(int trace) throws IndexOutOfBoundsException {
        return traceAt(trace).stepCount;
    }

    public int lineAt(int trace, int step) throws IndexOutOfBoundsException, NoSuchElementException {
        Trace found = traceAt(trace);
        if (step < 0 || step >= found.stepCount) {
            throw new NoSuchElementException("the trace has no such step");
        }
        return found.lines[step];
    }

    public int guards(int trace) throws IndexOutOfBoundsException {
        return traceAt(trace).guardCount;
    }

    public char guardAt(int trace, int guard) throws IndexOutOfBoundsException {
        return (char) traceWithGuard(trace, guard).guardLetters[guard];
    }

    public int guardStep(int trace, int guard) throws IndexOutOfBoundsException {
        return traceWithGuard(trace, guard).guardSteps[guard];
    }

    public int exits(int trace, int guard) throws IndexOutOfBoundsException {
        return traceWithGuard(trace, guard).exitCounts[guard];
    }

    public int sideOf(int trace, int guard) throws IndexOutOfBoundsException, NoSuchElementException {
        int side = traceWithGuard(trace, guard).sides[guard];
        if (side == NONE) {
            throw new NoSuchElementException("the guard has no side trace");
        }
        return side;
    }

    public int rootOf(int trace) throws IndexOutOfBoundsException {
        return traceAt(trace).root;
    }

    public int begun(int trace) throws IndexOutOfBoundsException {
        return traceAt(trace).begunCount;
    }

    public int inTraces() {
        return wheel.executedInTraces;
    }

    public int codeSize() {
        return wheel.forest.size();
    }

    public boolean agrees() {
        return agreement;
    }

    public float tracedShare() throws ArithmeticException {
        if (live.executed == 0) {
            throw new ArithmeticException("no instruction was executed");
        }
        return (float) wheel.executedInTraces / (float) live.executed;
    }

    public double meanGuards() throws ArithmeticException {
        int there = wheel.forest.countThere();
        if (there == 0) {
            throw new ArithmeticException("no trace is there");
        }
        return (double) wheel.forest.guardsThere() / (double) there;
    }

    public boolean isSound() {
        return agreement
                && wheel.forest.size() <= wheel.forest.codeLimit
                && wheel.forest.hasRoots()
                && wheel.caches.areSmall();
    }

    private void needFunction(int function) {
        if (!program.hasFunction(function)) {
            throw new IndexOutOfBoundsException("there is no such function");
        }
    }

    private void needIndex(int index) {
        if (index < 0 || index >= MOST_CODE) {
            throw new IllegalArgumentException("the index is out of range");
        }
    }

    private void needEnding(char ending) {
        if (live.ending != ending) {
            throw new NoSuchElementException("the last run has not ended so");
        }
    }

    private void needTold(int index) {
        if (index < 0 || index >= live.toldCount) {
            throw new IndexOutOfBoundsException("there is no such value");
        }
    }

    private void needObject(int object) {
        if (object < 0 || object >= live.objectCount) {
            throw new IndexOutOfBoundsException("there is no such object");
        }
    }

    private void needShape(int shape) {
        if (shape < 0 || shape >= shapeTable.count) {
            throw new IndexOutOfBoundsException("there is no such shape");
        }
    }

    private int cacheSite(int function, int index) {
        needFunction(function);
        if (!program.hasCode(function, index) || CACHED.indexOf(program.letters[siteOf(function, index)]) < 0) {
            throw new NoSuchElementException("there is no cache at the index");
        }
        return siteOf(function, index);
    }

    private Trace traceAt(int number) {
        if (number < 0 || number >= wheel.forest.count) {
            throw new IndexOutOfBoundsException("no such trace has come to be");
        }
        return wheel.forest.all[number];
    }

    private Trace traceWithGuard(int number, int guard) {
        Trace found = traceAt(number);
        if (guard < 0 || guard >= found.guardCount) {
            throw new IndexOutOfBoundsException("the trace has no such guard");
        }
        return found;
    }

    private static boolean isName(int name) {
        return name >= 0 && name < NAMES;
    }

    private static int siteOf(int function, int index) {
        return function * MOST_CODE + index;
    }

    private static int siteOfLine(int line) {
        return siteOf(line / LINES_A_FUNCTION, line % LINES_A_FUNCTION);
    }

    private static int localPlace(int frame, int local) {
        return frame * FRAME_PLACES + local;
    }

    private static int fieldPlace(int object, int name) {
        return FIRST_FIELD + object * NAMES + name;
    }

    /** Integers and floats; a float that is no number is told by isUndefined and never computed. */
    private static final class Numbers {
        static boolean isInteger(long answer) {
            return answer >= -2147483648L && answer <= 2147483647L;
        }

        /** Tells what comes of two integers, before it is known whether it is in range. */
        static long ofIntegers(char letter, long first, long second) {
            switch (letter) {
                case '+':
                    return first + second;
                case '-':
                    return first - second;
                case '*':
                    return first * second;
                case '/':
                    return second == 0 ? 0 : first / second;
                case '%':
                    return second == 0 ? 0 : first % second;
                default:
                    return first < second ? 1 : 0;
            }
        }

        static boolean isUndefined(char letter, double first, double second) {
            boolean bothEndless = isEndless(first) && isEndless(second);
            switch (letter) {
                case '+':
                    return bothEndless && (first > 0) != (second > 0);
                case '-':
                    return bothEndless && (first > 0) == (second > 0);
                case '*':
                    return (isEndless(first) && second == 0) || (first == 0 && isEndless(second));
                case '/':
                    return bothEndless || (first == 0 && second == 0);
                default:
                    return isEndless(first) || second == 0;
            }
        }

        /** Tells what comes of two floats, of which isUndefined is known not to hold. */
        static double ofFloats(char letter, double first, double second) {
            switch (letter) {
                case '+':
                    return first + second;
                case '-':
                    return first - second;
                case '*':
                    return first * second;
                case '/':
                    return first / second;
                default:
                    return rest(first, second);
            }
        }

        /** Takes the greatest doublings of the divisor away first: each difference is exact, as Java's own rest is. */
        private static double rest(double first, double second) {
            double left = first < 0 ? -first : first;
            double divisor = second < 0 ? -second : second;
            if (left < divisor) {
                return first;
            }
            double part = divisor;
            for (int i = 0; i < 3000 && part <= left - part; i++) {
                part = part * 2;
            }
            for (int i = 0; i < 3000 && part >= divisor; i++) {
                left = left >= part ? left - part : left;
                part = part / 2;
            }
            return first < 0 ? -left : left;
        }

        static boolean isEndless(double value) {
            return value > 1.7976931348623157E308 || value < -1.7976931348623157E308;
        }

        /** Halfway below the range the even integer is in it; halfway above, it is not. */
        static boolean hasNearest(double value) {
            return value >= -2147483648.5 && value < 2147483647.5;
        }

        static int nearest(double value) {
            long toward = (long) value;
            double over = value - (double) toward;
            boolean odd = (toward & 1) != 0;
            if (over > 0.5 || (over == 0.5 && odd)) {
                toward++;
            } else if (over < -0.5 || (over == -0.5 && odd)) {
                toward--;
            }
            return (int) toward;
        }

        static boolean isNegative(double value) {
            return value < 0 || (value == 0 && 1.0 / value < 0);
        }

        /** Scales the float until its digits stand as an integer of 53 bits, or its exponent is the least one. */
        static long bitsOf(double value) {
            long sign = isNegative(value) ? 0x8000000000000000L : 0;
            if (value == 0) {
                return sign;
            }
            if (isEndless(value)) {
                return sign | 0x7ff0000000000000L;
            }
            double scaled = value < 0 ? -value : value;
            long exponent = 1075;
            for (int i = 0; i < 2000 && scaled >= 9007199254740992.0; i++) {
                scaled = scaled / 2;
                exponent++;
            }
            for (int i = 0; i < 2000 && scaled < 4503599627370496.0 && exponent > 1; i++) {
                scaled = scaled * 2;
                exponent--;
            }
            long digits = (long) scaled;
            if (digits < 4503599627370496L) {
                return sign | digits;
            }
            return sign | (exponent << 52) | (digits & 0xfffffffffffffL);
        }
    }

    /** Values at places. A float that is no number has UNDEFINED as its whole, and no real. */
    private static final class Slots {
        private static final int UNDEFINED = 1;

        final char[] kinds;
        final int[] wholes;
        final double[] reals;
        final int[] facts;

        Slots() {
            kinds = new char[PLACES];
            wholes = new int[PLACES];
            reals = new double[PLACES];
            facts = new int[PLACES];
        }

        void put(int place, char kind, int whole) {
            kinds[place] = kind;
            wholes[place] = whole;
            reals[place] = 0;
        }

        private void putReal(int place, double real) {
            put(place, 'f', 0);
            reals[place] = real;
        }

        void move(int from, int to) {
            kinds[to] = kinds[from];
            wholes[to] = wholes[from];
            reals[to] = reals[from];
            facts[to] = facts[from];
        }

        boolean isNumber(int place) {
            return kinds[place] == 'i' || kinds[place] == 'f';
        }

        boolean areIntegers(int first, int second) {
            return kinds[first] == 'i' && kinds[second] == 'i';
        }

        boolean isUndefined(int place) {
            return kinds[place] == 'f' && wholes[place] == UNDEFINED;
        }

        private double realAt(int place) {
            return kinds[place] == 'i' ? (double) wholes[place] : reals[place];
        }

        boolean isNull(int place) {
            switch (kinds[place]) {
                case 'i':
                    return wholes[place] == 0;
                case 'f':
                    return !isUndefined(place) && reals[place] == 0;
                default:
                    return kinds[place] == 'n';
            }
        }

        long bitsAt(int place) {
            if (isUndefined(place)) {
                return 0x7ff8000000000000L;
            }
            return kinds[place] == 'f' ? Numbers.bitsOf(reals[place]) : wholes[place];
        }

        boolean hasNearest(int place) {
            return kinds[place] == 'i' || (!isUndefined(place) && Numbers.hasNearest(reals[place]));
        }

        void round(int place) {
            if (kinds[place] == 'f') {
                put(place, 'i', Numbers.nearest(reals[place]));
            }
        }

        boolean areEqual(int first, int second) {
            if (isNumber(first) && isNumber(second)) {
                return !isUndefined(first) && !isUndefined(second) && realAt(first) == realAt(second);
            }
            return kinds[first] == kinds[second] && wholes[first] == wholes[second];
        }

        boolean givesInteger(char letter, int first, int second) {
            return areIntegers(first, second)
                    && Numbers.isInteger(Numbers.ofIntegers(letter, wholes[first], wholes[second]));
        }

        /** Puts what comes of two values in place of the first one. */
        void combine(char letter, int first, int second) {
            if (letter == '=') {
                put(first, 'i', areEqual(first, second) ? 1 : 0);
            } else if (givesInteger(letter, first, second)) {
                put(first, 'i', (int) Numbers.ofIntegers(letter, wholes[first], wholes[second]));
            } else if (letter == '<') {
                put(first, 'i', isLess(first, second) ? 1 : 0);
            } else {
                combineReals(letter, first, second);
            }
        }

        private boolean isLess(int first, int second) {
            return !isUndefined(first) && !isUndefined(second) && realAt(first) < realAt(second);
        }

        private void combineReals(char letter, int first, int second) {
            double one = realAt(first);
            double other = realAt(second);
            if (isUndefined(first) || isUndefined(second) || Numbers.isUndefined(letter, one, other)) {
                put(first, 'f', UNDEFINED);
            } else {
                putReal(first, Numbers.ofFloats(letter, one, other));
            }
        }

        boolean isSame(int place, Slots others) {
            return kinds[place] == others.kinds[place]
                    && wholes[place] == others.wholes[place]
                    && reals[place] == others.reals[place]
                    && Numbers.isNegative(reals[place]) == Numbers.isNegative(others.reals[place]);
        }
    }

    /** What has been told to the machine: functions, classes and cells. */
    private static final class Program {
        final int[] parameters;
        final int[] lengths;
        final int[] handlers;
        final char[] letters;
        final int[] operands;
        final int[] cells;
        final int[] parents;
        final int[] methods;
        int functionCount;
        int classCount;

        Program() {
            parameters = new int[MOST_FUNCTIONS];
            lengths = new int[MOST_FUNCTIONS];
            handlers = new int[MOST_FUNCTIONS];
            letters = new char[SITES];
            operands = new int[SITES];
            cells = new int[CELLS];
            parents = new int[MOST_CLASSES];
            methods = new int[MOST_CLASSES * NAMES];
            Arrays.fill(handlers, NONE);
            Arrays.fill(methods, NONE);
        }

        boolean hasFunction(int function) {
            return function >= 0 && function < functionCount;
        }

        boolean hasClass(int clazz) {
            return clazz >= 0 && clazz < classCount;
        }

        boolean hasCode(int function, int index) {
            return index >= 0 && index < lengths[function];
        }

        int addFunctionWith(int count) {
            parameters[functionCount] = count;
            functionCount++;
            return functionCount - 1;
        }

        int addClassBelow(int parent) {
            parents[classCount] = parent;
            classCount++;
            return classCount - 1;
        }

        int append(int function, char letter, int operand) {
            int site = siteOf(function, lengths[function]);
            letters[site] = letter;
            operands[site] = operand;
            lengths[function]++;
            return lengths[function];
        }

        boolean allowsOperand(char letter, int operand) {
            return letter == 'i' || (operand >= 0 && operand < operandBound(letter));
        }

        private int operandBound(char letter) {
            switch (letter) {
                case 'k':
                    return CELLS;
                case 'l':
                case 's':
                    return LOCALS;
                case 'j':
                case 'z':
                    return MOST_CODE;
                case 'n':
                    return classCount;
                case 'g':
                case 'p':
                case 'm':
                    return NAMES;
                case 'c':
                    return functionCount;
                default:
                    return 1;
            }
        }

        int methodOf(int clazz, int name) {
            int at = clazz;
            for (int up = 0; up < MOST_CLASSES && at != NONE; up++) {
                if (methods[at * NAMES + name] != NONE) {
                    return methods[at * NAMES + name];
                }
                at = parents[at];
            }
            return NONE;
        }
    }

    /** The shapes and which one follows which by a name. */
    private static final class Shapes {
        final int[] classes;
        final int[] sizes;
        final int[] masks;
        final int[] order;
        final int[] followers;
        final int[] firsts;
        int count;

        Shapes() {
            classes = new int[MOST_SHAPES];
            sizes = new int[MOST_SHAPES];
            masks = new int[MOST_SHAPES];
            order = new int[MOST_SHAPES * NAMES];
            followers = new int[MOST_SHAPES * NAMES];
            firsts = new int[MOST_CLASSES];
        }

        boolean has(int shape, int name) {
            return (masks[shape] >> name & 1) != 0;
        }

        int addEmpty(int clazz) {
            int shape = count;
            classes[shape] = clazz;
            sizes[shape] = 0;
            masks[shape] = 0;
            for (int name = 0; name < NAMES; name++) {
                followers[shape * NAMES + name] = NONE;
            }
            count++;
            return shape;
        }

        boolean canPut(int shape, int name) {
            return has(shape, name) || followers[shape * NAMES + name] != NONE || count < MOST_SHAPES;
        }

        /** Tells the shape that an object has when the name has been put. */
        int behindPut(int shape, int name) {
            if (has(shape, name)) {
                return shape;
            }
            if (followers[shape * NAMES + name] == NONE) {
                followers[shape * NAMES + name] = addLonger(shape, name);
            }
            return followers[shape * NAMES + name];
        }

        private int addLonger(int shape, int name) {
            int longer = addEmpty(classes[shape]);
            for (int i = 0; i < sizes[shape]; i++) {
                order[longer * NAMES + i] = order[shape * NAMES + i];
            }
            order[longer * NAMES + sizes[shape]] = name;
            sizes[longer] = sizes[shape] + 1;
            masks[longer] = masks[shape] | 1 << name;
            return longer;
        }

        void takeBack(int before) {
            for (int i = 0; i < before * NAMES; i++) {
                if (followers[i] >= before) {
                    followers[i] = NONE;
                }
            }
            count = before;
        }
    }

    /** The state of a run, and what an instruction does in it. */
    private static final class Machine {
        final Program program;
        final Shapes shapes;
        final Slots slots;
        final int[] functions;
        final int[] indices;
        final int[] heights;
        final int[] objectShapes;
        char letterAhead;
        int operandAhead;
        int depth;
        int objectCount;
        int toldCount;
        int executed;
        char ending;
        char failureLetter;
        int failureLine;

        Machine(Program program, Shapes shapes) {
            this.program = program;
            this.shapes = shapes;
            slots = new Slots();
            functions = new int[MOST_FRAMES];
            indices = new int[MOST_FRAMES];
            heights = new int[MOST_FRAMES];
            objectShapes = new int[MOST_OBJECTS];
            ending = NO_OUTCOME;
            failureLetter = NO_FAILURE;
        }

        void begin(int function, int argument) {
            depth = 0;
            objectCount = 0;
            toldCount = 0;
            executed = 0;
            ending = NO_OUTCOME;
            failureLetter = NO_FAILURE;
            failureLine = 0;
            addFrame(function);
            slots.put(localPlace(0, 0), 'i', argument);
        }

        void runOut() {
            for (int turn = 0; turn < MOST_TURNS && isRunning(); turn++) {
                if (isAtLimit()) {
                    endAtLimit();
                    continue;
                }
                char failing = failureAhead();
                if (failing != NO_FAILURE) {
                    failWith(failing);
                } else {
                    execute();
                }
            }
        }

        boolean isRunning() {
            return ending == NO_OUTCOME;
        }

        boolean isAtLimit() {
            return executed >= MOST_EXECUTED;
        }

        void endAtLimit() {
            endWith('l', lineAhead());
        }

        private void endWith(char letter, int line) {
            ending = 'x';
            failureLetter = letter;
            failureLine = line;
        }

        private void addFrame(int function) {
            functions[depth] = function;
            indices[depth] = 0;
            heights[depth] = 0;
            for (int local = 0; local < LOCALS; local++) {
                slots.put(localPlace(depth, local), 'n', 0);
            }
            depth++;
        }

        int functionAhead() {
            return functions[depth - 1];
        }

        int indexAhead() {
            return indices[depth - 1];
        }

        int siteAhead() {
            return siteOf(functionAhead(), indexAhead());
        }

        int lineAhead() {
            return functionAhead() * LINES_A_FUNCTION + indexAhead();
        }

        /** The place of the value that is this far from the top of the stack, the uppermost one being 1. */
        int fromTop(int distance) {
            int frame = depth - 1;
            return frame * FRAME_PLACES + LOCALS + heights[frame] - distance;
        }

        int shapeFromTop(int distance) {
            return objectShapes[slots.wholes[fromTop(distance)]];
        }

        int classFromTop() {
            return shapes.classes[shapeFromTop(1)];
        }

        /**
         * Looks at the instruction ahead and tells for what it fails, if it does.
         * The reasons are asked in the document's order: each may rest on those ahead of it.
         */
        char failureAhead() {
            if (!program.hasCode(functionAhead(), indexAhead())) {
                return 'e';
            }
            letterAhead = program.letters[siteAhead()];
            operandAhead = program.operands[siteAhead()];
            if (failsByStack(letterAhead, operandAhead)) {
                return 's';
            }
            if (failsByKind(letterAhead)) {
                return 'k';
            }
            return failureByValue(letterAhead, operandAhead);
        }

        private boolean failsByStack(char letter, int operand) {
            int height = heights[depth - 1];
            int taken = takes(letter, operand);
            if (height < taken || height - taken + pushes(letter) > MOST_STACK) {
                return true;
            }
            return letter == 'r' && depth > 1 && heights[depth - 2] >= MOST_STACK;
        }

        private int takes(char letter, int operand) {
            switch (letter) {
                case 'i':
                case 'k':
                case 'l':
                case 'n':
                case 'j':
                    return 0;
                case 'p':
                    return 2;
                case 'c':
                    return program.parameters[operand];
                default:
                    return TWO_VALUES.indexOf(letter) >= 0 ? 2 : 1;
            }
        }

        private int pushes(char letter) {
            switch (letter) {
                case 's':
                case 'd':
                case 'j':
                case 'z':
                case 'p':
                case 'c':
                case 'm':
                case 'r':
                case 't':
                    return 0;
                case 'u':
                    return 2;
                default:
                    return 1;
            }
        }

        private boolean failsByKind(char letter) {
            switch (letter) {
                case 'w':
                    return !slots.isNumber(fromTop(1));
                case 'g':
                case 'm':
                    return slots.kinds[fromTop(1)] != 'o';
                case 'p':
                    return slots.kinds[fromTop(2)] != 'o';
                default:
                    return TWO_NUMBERS.indexOf(letter) >= 0
                            && !(slots.isNumber(fromTop(2)) && slots.isNumber(fromTop(1)));
            }
        }

        private char failureByValue(char letter, int operand) {
            switch (letter) {
                case '/':
                case '%':
                    return dividesByZero() ? '0' : NO_FAILURE;
                case 'w':
                    return slots.hasNearest(fromTop(1)) ? NO_FAILURE : 'w';
                case 'g':
                    return shapes.has(shapeFromTop(1), operand) ? NO_FAILURE : 'f';
                case 'p':
                    return shapes.canPut(shapeFromTop(2), operand) ? NO_FAILURE : 'f';
                case 'm':
                    return program.methodOf(classFromTop(), operand) == NONE ? 'm' : failureByDepth();
                case 'c':
                    return failureByDepth();
                case 'n':
                    return objectCount >= MOST_OBJECTS ? 'o' : NO_FAILURE;
                default:
                    return NO_FAILURE;
            }
        }

        private boolean dividesByZero() {
            return slots.areIntegers(fromTop(2), fromTop(1)) && slots.wholes[fromTop(1)] == 0;
        }

        private char failureByDepth() {
            return depth >= MOST_FRAMES ? 'd' : NO_FAILURE;
        }

        /** Goes on at the uppermost handler, or ends the run. */
        void failWith(char letter) {
            executed++;
            int frame = depth - 1;
            while (frame >= 0 && program.handlers[functions[frame]] == NONE) {
                frame--;
            }
            if (frame < 0) {
                endWith(letter, lineAhead());
                return;
            }
            depth = frame + 1;
            indices[frame] = program.handlers[functions[frame]];
            heights[frame] = 0;
            pushPut('i', letter);
        }

        /** Executes the instruction ahead, which failureAhead has looked at; tells whether it was a jump back. */
        boolean execute() {
            int frame = depth - 1;
            int index = indices[frame];
            int operand = operandAhead;
            executed++;
            indices[frame] = index + 1;
            switch (letterAhead) {
                case 'j':
                    indices[frame] = operand;
                    return operand <= index;
                case 'z':
                    return jumpsAtNull(operand, index);
                case 'c':
                    call(operand, program.parameters[operand]);
                    return false;
                case 'm':
                    call(program.methodOf(classFromTop(), operand), 1);
                    return false;
                case 'r':
                    giveBack();
                    return false;
                case 'n':
                case 'g':
                case 'p':
                    useObject(letterAhead, operand);
                    return false;
                default:
                    useStack(letterAhead, operand);
                    return false;
            }
        }

        private void useStack(char letter, int operand) {
            switch (letter) {
                case 'i':
                    pushPut('i', operand);
                    return;
                case 'k':
                    pushPut('i', program.cells[operand]);
                    return;
                case 'l':
                    pushMoved(localPlace(depth - 1, operand));
                    return;
                case 'u':
                    pushMoved(fromTop(1));
                    return;
                case 's':
                    slots.move(take(), localPlace(depth - 1, operand));
                    return;
                case 'd':
                    take();
                    return;
                case 't':
                    tell(take());
                    return;
                case 'w':
                    slots.round(fromTop(1));
                    return;
                default:
                    slots.combine(letter, fromTop(2), fromTop(1));
                    take();
            }
        }

        private void useObject(char letter, int operand) {
            if (letter == 'n') {
                objectShapes[objectCount] = shapes.firsts[operand];
                pushPut('o', objectCount);
                objectCount++;
            } else if (letter == 'g') {
                slots.move(fieldPlace(slots.wholes[fromTop(1)], operand), fromTop(1));
            } else {
                int value = take();
                int object = slots.wholes[take()];
                objectShapes[object] = shapes.behindPut(objectShapes[object], operand);
                slots.move(value, fieldPlace(object, operand));
            }
        }

        private int take() {
            heights[depth - 1]--;
            return fromTop(0);
        }

        private void pushPut(char kind, int whole) {
            heights[depth - 1]++;
            slots.put(fromTop(1), kind, whole);
        }

        private void pushMoved(int from) {
            heights[depth - 1]++;
            slots.move(from, fromTop(1));
        }

        private void tell(int place) {
            if (toldCount < MOST_TOLD) {
                slots.move(place, FIRST_TOLD + toldCount);
                toldCount++;
            }
        }

        private boolean jumpsAtNull(int target, int index) {
            if (!slots.isNull(take())) {
                return false;
            }
            indices[depth - 1] = target;
            return target <= index;
        }

        private void call(int function, int count) {
            int frame = depth - 1;
            heights[frame] -= count;
            addFrame(function);
            for (int i = 0; i < count; i++) {
                slots.move(frame * FRAME_PLACES + LOCALS + heights[frame] + i, localPlace(frame + 1, i));
            }
        }

        private void giveBack() {
            int value = take();
            depth--;
            if (depth == 0) {
                slots.move(value, RESULT);
                ending = 'v';
            } else {
                pushMoved(value);
            }
        }

        /** Tells what a guard of the instruction ahead asks of the value this far from the top. */
        int answerTo(char guard, int distance) {
            int place = fromTop(distance);
            switch (guard) {
                case 'k':
                    return slots.kinds[place];
                case 'o':
                    return slots.givesInteger(letterAhead, place, fromTop(1)) ? 1 : 0;
                case 's':
                    return shapeFromTop(distance);
                default:
                    return slots.isNull(place) ? 1 : 0;
            }
        }

        boolean endedLike(Machine other) {
            return ending == other.ending
                    && failureLetter == other.failureLetter
                    && failureLine == other.failureLine
                    && executed == other.executed
                    && (ending != 'v' || slots.isSame(RESULT, other.slots))
                    && hasToldLike(other)
                    && hasObjectsLike(other);
        }

        private boolean hasToldLike(Machine other) {
            boolean same = toldCount == other.toldCount;
            for (int i = 0; i < toldCount; i++) {
                same = same && slots.isSame(FIRST_TOLD + i, other.slots);
            }
            return same;
        }

        private boolean hasObjectsLike(Machine other) {
            boolean same = objectCount == other.objectCount;
            for (int i = 0; i < objectCount; i++) {
                same = same && objectShapes[i] == other.objectShapes[i] && hasFieldsLike(i, other);
            }
            return same;
        }

        private boolean hasFieldsLike(int object, Machine other) {
            boolean same = true;
            for (int name = 0; name < NAMES; name++) {
                if (shapes.has(objectShapes[object], name)) {
                    same = same && slots.isSame(fieldPlace(object, name), other.slots);
                }
            }
            return same;
        }
    }

    /** The caches of all sites. */
    private static final class Caches {
        private static final int GIVEN_UP = -1;

        final int[] keys;
        final int[] sizes;
        final int[] hitCounts;
        final int[] missCounts;

        Caches() {
            keys = new int[SITES * MOST_KEYS];
            sizes = new int[SITES];
            hitCounts = new int[SITES];
            missCounts = new int[SITES];
        }

        char stateAt(int site) {
            if (sizes[site] == GIVEN_UP) {
                return 'x';
            }
            return sizes[site] == 0 ? 'e' : (char) ('0' + sizes[site]);
        }

        void meet(int site, int key) {
            if (sizes[site] == GIVEN_UP) {
                return;
            }
            if (keeps(site, key)) {
                hitCounts[site]++;
                return;
            }
            missCounts[site]++;
            if (sizes[site] >= MOST_KEYS) {
                sizes[site] = GIVEN_UP;
            } else {
                keys[site * MOST_KEYS + sizes[site]] = key;
                sizes[site]++;
            }
        }

        private boolean keeps(int site, int key) {
            for (int i = 0; i < sizes[site]; i++) {
                if (keys[site * MOST_KEYS + i] == key) {
                    return true;
                }
            }
            return false;
        }

        void emptyMethods(Program program) {
            for (int site = 0; site < SITES; site++) {
                if (program.letters[site] == 'm' && sizes[site] != GIVEN_UP) {
                    sizes[site] = 0;
                }
            }
        }

        boolean areSmall() {
            boolean small = true;
            for (int site = 0; site < SITES; site++) {
                small = small && sizes[site] <= MOST_KEYS;
            }
            return small;
        }
    }

    /** What is counted of the heads, and their root traces. */
    private static final class Heads {
        final int[] counters;
        final int[] breaks;
        final int[] roots;

        Heads() {
            counters = new int[SITES];
            breaks = new int[SITES];
            roots = new int[SITES];
            Arrays.fill(roots, NONE);
        }

        boolean bars(int site) {
            return breaks[site] >= BREAKS_THAT_BAR;
        }

        void breakOff(int site) {
            counters[site] = 0;
            breaks[site]++;
        }
    }

    /** A trace that has come to be. */
    private static final class Trace {
        final int stepCount;
        final int guardCount;
        final int[] lines;
        final int[] firstGuards;
        final int[] guardLetters;
        final int[] guardSteps;
        final int[] guardDistances;
        final int[] guardAnswers;
        final int[] exitCounts;
        final int[] exitCounters;
        final int[] breaks;
        final int[] sides;
        final int root;
        final int headSite;
        boolean there;
        int begunCount;
        int enteredAt;

        Trace(Recorder recorder, int root) {
            stepCount = recorder.stepCount;
            guardCount = recorder.guardCount;
            lines = Arrays.copyOf(recorder.lines, stepCount);
            firstGuards = Arrays.copyOf(recorder.firstGuards, stepCount + 1);
            firstGuards[stepCount] = guardCount;
            guardLetters = Arrays.copyOf(recorder.guardLetters, guardCount);
            guardSteps = Arrays.copyOf(recorder.guardSteps, guardCount);
            guardDistances = Arrays.copyOf(recorder.guardDistances, guardCount);
            guardAnswers = Arrays.copyOf(recorder.guardAnswers, guardCount);
            exitCounts = new int[guardCount];
            exitCounters = new int[guardCount];
            breaks = new int[guardCount];
            sides = new int[guardCount];
            Arrays.fill(sides, NONE);
            this.root = root;
            headSite = recorder.headSite;
            there = true;
        }

        boolean bars(int guard) {
            return breaks[guard] >= BREAKS_THAT_BAR;
        }

        void breakOff(int guard) {
            exitCounters[guard] = 0;
            breaks[guard]++;
        }
    }

    /** All traces that have come to be. */
    private static final class Forest {
        final Program program;
        final Heads heads;
        final Trace[] all;
        int count;
        int codeLimit;
        int entries;

        Forest(Program program, Heads heads, Trace filler) {
            this.program = program;
            this.heads = heads;
            all = new Trace[MOST_TRACES];
            for (int i = 0; i < MOST_TRACES; i++) {
                all[i] = filler;
            }
            codeLimit = 80;
        }

        boolean isFull() {
            return count >= MOST_TRACES;
        }

        int size() {
            int sum = 0;
            for (int i = 0; i < count; i++) {
                sum += all[i].there ? all[i].stepCount : 0;
            }
            return sum;
        }

        int countThere() {
            int sum = 0;
            for (int i = 0; i < count; i++) {
                sum += all[i].there ? 1 : 0;
            }
            return sum;
        }

        int guardsThere() {
            int sum = 0;
            for (int i = 0; i < count; i++) {
                sum += all[i].there ? all[i].guardCount : 0;
            }
            return sum;
        }

        boolean hasRoots() {
            boolean has = true;
            for (int i = 0; i < count; i++) {
                has = has && (!all[i].there || all[all[i].root].there);
            }
            return has;
        }

        int shrink() {
            int thrown = 0;
            while (thrown < MOST_TRACES && size() > codeLimit) {
                throwTree(leastLatelyEntered(NONE));
                thrown++;
            }
            return thrown;
        }

        /** Throws trees away until the steps have room, but never the kept one; tells whether they have. */
        boolean makeRoom(int steps, int kept) {
            for (int i = 0; i < MOST_TRACES && size() + steps > codeLimit; i++) {
                throwTree(leastLatelyEntered(kept));
            }
            return size() + steps <= codeLimit;
        }

        private int leastLatelyEntered(int kept) {
            int least = NONE;
            for (int i = 0; i < count; i++) {
                boolean isTree = all[i].there && all[i].root == i && i != kept;
                if (isTree && (least == NONE || all[i].enteredAt < all[least].enteredAt)) {
                    least = i;
                }
            }
            return least;
        }

        int throwThoseWith(char letter, int operand) {
            int thrown = 0;
            for (int i = 0; i < count; i++) {
                if (all[i].there && hasStep(all[i], letter, operand)) {
                    throwTree(all[i].root);
                    thrown++;
                }
            }
            return thrown;
        }

        /** The operand counts for 'k' alone: a method may be asked by any name. */
        private boolean hasStep(Trace trace, char letter, int operand) {
            boolean has = false;
            for (int i = 0; i < trace.stepCount; i++) {
                int site = siteOfLine(trace.lines[i]);
                has = has || (program.letters[site] == letter && (letter == 'm' || program.operands[site] == operand));
            }
            return has;
        }

        private void throwTree(int root) {
            if (root == NONE) {
                return;
            }
            for (int i = 0; i < count; i++) {
                if (all[i].root == root) {
                    all[i].there = false;
                }
            }
            int site = all[root].headSite;
            heads.roots[site] = NONE;
            heads.counters[site] = 0;
        }
    }

    /** The trace that is being recorded, and what is known of values as long as it is. */
    private static final class Recorder {
        private static final int KIND = 1;
        private static final int NULLNESS = 2;
        private static final int CONSTANT = 4;
        private static final int SHAPE = 8;
        private static final int MOST_FACTS = FIRST_FIELD + MOST_STEPS * (LOCALS + 1);

        final int[] lines;
        final int[] firstGuards;
        final int[] guardLetters;
        final int[] guardSteps;
        final int[] guardDistances;
        final int[] guardAnswers;
        final int[] known;
        int stepCount;
        int guardCount;
        int factCount;
        boolean active;
        int headSite;
        int rootDepth;
        int parent;
        int parentGuard;
        int made;

        Recorder() {
            lines = new int[MOST_STEPS];
            firstGuards = new int[MOST_STEPS + 1];
            guardLetters = new int[MOST_STEPS * MOST_STEP_GUARDS];
            guardSteps = new int[MOST_STEPS * MOST_STEP_GUARDS];
            guardDistances = new int[MOST_STEPS * MOST_STEP_GUARDS];
            guardAnswers = new int[MOST_STEPS * MOST_STEP_GUARDS];
            known = new int[MOST_FACTS];
        }

        void beginRoot(Machine machine, int site) {
            parent = NONE;
            parentGuard = NONE;
            begin(machine, site, machine.depth);
        }

        void beginSide(Machine machine, Trace trace, int number, int guard, int depth) {
            parent = number;
            parentGuard = guard;
            begin(machine, trace.headSite, depth);
        }

        /** Each place gets facts of its own: two values that are the same one now need not be so the next time. */
        private void begin(Machine machine, int site, int depth) {
            active = true;
            headSite = site;
            rootDepth = depth;
            stepCount = 0;
            guardCount = 0;
            for (int place = 0; place < FIRST_FIELD; place++) {
                machine.slots.facts[place] = place;
                known[place] = 0;
            }
            factCount = FIRST_FIELD;
        }

        boolean isFull() {
            return stepCount >= MOST_STEPS;
        }

        boolean isClosedBy(Machine machine) {
            return machine.depth == rootDepth && machine.siteAhead() == headSite;
        }

        /** Notes the instruction ahead as a step, with its guards. */
        void noteAhead(Machine machine) {
            char letter = machine.letterAhead;
            lines[stepCount] = machine.lineAhead();
            firstGuards[stepCount] = guardCount;
            made = 0;
            switch (letter) {
                case 'i':
                case 'k':
                    made = CONSTANT | KIND | NULLNESS;
                    break;
                case 'n':
                    made = SHAPE | KIND | NULLNESS;
                    break;
                case 'w':
                    made = madeOf(isKnown(machine, 1, CONSTANT));
                    askKind(machine, 1);
                    break;
                case 'z':
                    askNullness(machine, 't');
                    break;
                case 'g':
                case 'm':
                    askShape(machine, 1);
                    break;
                case 'p':
                    askShape(machine, 2);
                    forgetOtherShapes(machine);
                    break;
                default:
                    noteTwoValues(machine, letter);
            }
            stepCount++;
        }

        private void noteTwoValues(Machine machine, char letter) {
            if (TWO_VALUES.indexOf(letter) < 0) {
                return;
            }
            boolean constant = isKnown(machine, 2, CONSTANT) && isKnown(machine, 1, CONSTANT);
            made = madeOf(constant);
            if (constant) {
                return;
            }
            askKind(machine, 2);
            askKind(machine, 1);
            if (!machine.slots.areIntegers(machine.fromTop(2), machine.fromTop(1))) {
                return;
            }
            if (letter == '/' || letter == '%') {
                askNullness(machine, 'z');
            }
            if (CAN_OVERFLOW.indexOf(letter) >= 0) {
                ask('o', 2, machine.answerTo('o', 2));
            }
        }

        private int madeOf(boolean constant) {
            return constant ? CONSTANT | KIND | NULLNESS : KIND;
        }

        private void askKind(Machine machine, int distance) {
            if (!isKnown(machine, distance, KIND)) {
                ask('k', distance, machine.answerTo('k', distance));
                learn(machine, distance, machine.slots.isNumber(machine.fromTop(distance)) ? KIND : KIND | NULLNESS);
            }
        }

        private void askNullness(Machine machine, char guard) {
            if (!isKnown(machine, 1, NULLNESS)) {
                ask(guard, 1, machine.answerTo(guard, 1));
                learn(machine, 1, NULLNESS);
            }
        }

        private void askShape(Machine machine, int distance) {
            if (!isKnown(machine, distance, SHAPE)) {
                ask('s', distance, machine.answerTo('s', distance));
                learn(machine, distance, SHAPE | KIND | NULLNESS);
            }
        }

        private void ask(char guard, int distance, int answer) {
            guardLetters[guardCount] = guard;
            guardSteps[guardCount] = stepCount;
            guardDistances[guardCount] = distance;
            guardAnswers[guardCount] = answer;
            guardCount++;
        }

        private boolean isKnown(Machine machine, int distance, int fact) {
            return (known[machine.slots.facts[machine.fromTop(distance)]] & fact) != 0;
        }

        private void learn(Machine machine, int distance, int facts) {
            known[machine.slots.facts[machine.fromTop(distance)]] |= facts;
        }

        /** Any other value may be the object whose shape changes. */
        private void forgetOtherShapes(Machine machine) {
            if (machine.shapes.has(machine.shapeFromTop(2), machine.operandAhead)) {
                return;
            }
            for (int i = 0; i < factCount; i++) {
                known[i] &= ~SHAPE;
            }
            learn(machine, 2, SHAPE);
        }

        /** Gives facts to the values that the step has made. */
        void noteBehind(Machine machine, char letter) {
            if (MAKERS.indexOf(letter) >= 0) {
                giveFacts(machine.slots, machine.fromTop(1), made);
            } else if (letter == 'c' || letter == 'm') {
                int frame = machine.depth - 1;
                for (int local = machine.program.parameters[machine.functionAhead()]; local < LOCALS; local++) {
                    giveFacts(machine.slots, localPlace(frame, local), KIND | NULLNESS);
                }
            }
        }

        private void giveFacts(Slots slots, int place, int facts) {
            slots.facts[place] = factCount;
            known[factCount] = facts;
            factCount++;
        }
    }

    /** Runs the live machine with traces. */
    private static final class Wheel {
        final Machine machine;
        final Caches caches;
        final Heads heads;
        final Recorder recorder;
        final Forest forest;
        int loopLimit;
        int exitLimit;
        int executedInTraces;
        boolean inTrace;
        private Trace current;
        private int currentNumber;
        private int step;
        private int rootDepth;

        Wheel(Program program, Machine machine) {
            this.machine = machine;
            caches = new Caches();
            heads = new Heads();
            recorder = new Recorder();
            current = new Trace(recorder, NONE);
            forest = new Forest(program, heads, current);
            loopLimit = 3;
            exitLimit = 2;
        }

        void begin() {
            executedInTraces = 0;
            inTrace = false;
        }

        void turnInTrace() {
            if (machine.isAtLimit() || machine.failureAhead() != NO_FAILURE) {
                inTrace = false;
                return;
            }
            for (int guard = current.firstGuards[step]; guard < current.firstGuards[step + 1]; guard++) {
                int answer = machine.answerTo((char) current.guardLetters[guard], current.guardDistances[guard]);
                if (answer != current.guardAnswers[guard]) {
                    exitAt(guard);
                    return;
                }
            }
            machine.execute();
            executedInTraces++;
            step++;
            if (step >= current.stepCount) {
                enter(current.root);
            }
        }

        private void enter(int root) {
            Trace trace = forest.all[root];
            forest.entries++;
            trace.enteredAt = forest.entries;
            rootDepth = machine.depth;
            follow(root);
        }

        private void follow(int number) {
            currentNumber = number;
            current = forest.all[number];
            current.begunCount++;
            step = 0;
            inTrace = true;
        }

        private void exitAt(int guard) {
            current.exitCounts[guard]++;
            if (current.sides[guard] != NONE) {
                follow(current.sides[guard]);
                return;
            }
            current.exitCounters[guard]++;
            inTrace = false;
            if (current.exitCounters[guard] >= exitLimit && !current.bars(guard)) {
                recorder.beginSide(machine, current, currentNumber, guard, rootDepth);
            }
        }

        /** Tells whether the instruction ahead can be executed; otherwise it has failed, or the run has ended. */
        boolean canExecute() {
            if (machine.isAtLimit()) {
                machine.endAtLimit();
                return false;
            }
            if (recorder.isFull()) {
                breakOff();
            }
            char failing = machine.failureAhead();
            if (failing == NO_FAILURE) {
                return true;
            }
            breakOff();
            machine.failWith(failing);
            return false;
        }

        /** Executes the instruction ahead, of which canExecute has been told. */
        void executeOutside() {
            char letter = machine.letterAhead;
            if (letter == 'r' && machine.depth == recorder.rootDepth) {
                breakOff();
            }
            meetCache(letter);
            if (recorder.active) {
                recorder.noteAhead(machine);
            }
            boolean back = machine.execute();
            if (recorder.active) {
                recorder.noteBehind(machine, letter);
            }
            if (back) {
                arrive(machine.siteAhead());
            }
        }

        private void meetCache(char letter) {
            if (letter == 'g') {
                caches.meet(machine.siteAhead(), machine.shapeFromTop(1));
            } else if (letter == 'p') {
                caches.meet(machine.siteAhead(), machine.shapeFromTop(2));
            } else if (letter == 'm') {
                caches.meet(machine.siteAhead(), machine.classFromTop());
            }
        }

        /** Deals with a jump back to the head at this site. */
        private void arrive(int site) {
            if (recorder.active && recorder.isClosedBy(machine)) {
                finish();
                return;
            }
            breakOff();
            if (heads.roots[site] != NONE) {
                enter(heads.roots[site]);
                return;
            }
            heads.counters[site]++;
            if (heads.counters[site] >= loopLimit && !heads.bars(site)) {
                recorder.beginRoot(machine, site);
            }
        }

        /** Makes the recorded trace come to be, if it can. */
        private void finish() {
            int kept = recorder.parent == NONE ? NONE : forest.all[recorder.parent].root;
            if (forest.isFull() || !forest.makeRoom(recorder.stepCount, kept)) {
                breakOff();
                return;
            }
            int number = forest.count;
            forest.all[number] = new Trace(recorder, kept == NONE ? number : kept);
            forest.count++;
            if (kept == NONE) {
                heads.roots[recorder.headSite] = number;
            } else {
                forest.all[recorder.parent].sides[recorder.parentGuard] = number;
            }
            recorder.active = false;
            enter(kept == NONE ? number : kept);
        }

        void breakOff() {
            if (!recorder.active) {
                return;
            }
            recorder.active = false;
            if (recorder.parent == NONE) {
                heads.breakOff(recorder.headSite);
            } else {
                forest.all[recorder.parent].breakOff(recorder.parentGuard);
            }
        }
    }
}
