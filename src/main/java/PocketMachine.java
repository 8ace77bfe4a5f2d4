import java.util.Arrays;

/**
 * A machine for a small device: classes and methods are linked to a flat image of bytes, which is
 * checked before it may run, and is run in a small memory with references of sixteen bits.
 */
public final class PocketMachine {
    public static final int BAD = -1, NONE = -2;

    private static final int CLASSES = 10, METHODS = 24, NAMES = 8, CODE = 60, TRAPS = 6;
    private static final int FIELDS = 6, ARGUMENTS = 4, LOCALS = 12, STACK = 10, STATICS = 8;
    private static final int THREADS = 6, DEPTH = 20, FRAME = LOCALS + STACK;
    private static final int INPUTS = 100, OUTPUTS = 300, FED = 6000;
    private static final int LEAST_HEAP = 50, MOST_HEAP = 8000, MOST_QUANTUM = 50, MOST_STEPS = 5000;
    private static final int MOST_PLACES = 200, MOST_ENTRIES = 60000;

    // The image: its head, and how much a class, a method, and a trap take in it.
    private static final int FIRST_BYTE = 80, SECOND_BYTE = 77, NO_NUMBER = 255;
    private static final int HEAD_BYTES = 9, CLASS_BYTES = 11, METHOD_BYTES = 9, TRAP_BYTES = 7;
    private static final int IMAGE_ROOM =
            HEAD_BYTES + CLASSES * CLASS_BYTES + METHODS * (METHOD_BYTES + TRAPS * TRAP_BYTES + 3 * CODE);

    private static final int CONSTANT = 1, LOAD = 2, STORE = 3;
    private static final int ADD = 4, SUBTRACT = 5, MULTIPLY = 6, DIVIDE = 7, REST = 8, NEGATE = 9;
    private static final int AND = 10, OR = 11, XOR = 12, LEFT = 13, RIGHT = 14, RIGHT_UNSIGNED = 15;
    private static final int COPY = 16, DROP = 17, SWAP = 18;
    private static final int GO = 19, IF_ZERO = 20, IF_BELOW_ZERO = 21, IF_ABOVE_ZERO = 22;
    private static final int IF_NULL = 23, IF_SAME = 24, IF_LESS = 25;
    private static final int MAKE = 26, GET_INT = 27, SET_INT = 28, GET_REF = 29, SET_REF = 30;
    private static final int MAKE_INTS = 31, GET_INT_PLACE = 32, SET_INT_PLACE = 33, LENGTH = 34;
    private static final int MAKE_REFS = 35, GET_REF_PLACE = 36, SET_REF_PLACE = 37;
    private static final int CALL = 38, CALL_NAME = 39, RETURN = 40, RETURN_INT = 41, RETURN_REF = 42;
    private static final int THROW = 43, IS_OF = 44, PUT_NULL = 45, SEND = 46, RECEIVE = 47;
    private static final int BEGIN = 48, ENTER = 49, LEAVE = 50, END_TURN = 51;
    private static final int GET_INT_STATIC = 52, SET_INT_STATIC = 53;
    private static final int GET_REF_STATIC = 54, SET_REF_STATIC = 55, LAST_INSTRUCTION = 55;
    private static final int WIDE_CONSTANT = 61;

    // Kinds of values while a method is looked at.
    private static final int UNSET = 0, INT = 1, REF = 2, ANY = 3;

    /** What an instruction takes, one hexadecimal digit a kind, the topmost value last. */
    private static final int[] TAKES = {
        0, 0, 0, 0, 0x11, 0x11, 0x11, 0x11, 0x11, 0x1,
        0x11, 0x11, 0x11, 0x11, 0x11, 0x11, 0, 0x3, 0, 0,
        0x1, 0x1, 0x1, 0x2, 0x22, 0x11, 0, 0x2, 0x21, 0x2,
        0x22, 0x1, 0x21, 0x211, 0x2, 0x1, 0x21, 0x212, 0, 0,
        0, 0x1, 0x2, 0x2, 0x2, 0, 0x1, 0, 0x2, 0x2,
        0x2, 0, 0, 0x1, 0, 0x2
    };

    /** The kind that an instruction puts; those that depend on more than the number have 0. */
    private static final int[] PUTS = {
        0, 1, 0, 0, 1, 1, 1, 1, 1, 1,
        1, 1, 1, 1, 1, 1, 0, 0, 0, 0,
        0, 0, 0, 0, 0, 0, 2, 1, 0, 2,
        0, 2, 1, 0, 1, 2, 2, 0, 0, 0,
        0, 0, 0, 0, 1, 2, 0, 1, 0, 0,
        0, 0, 1, 0, 2, 0
    };

    /** How many bytes an instruction takes in the image. */
    private static final int[] BYTES = {
        1, 2, 2, 2, 1, 1, 1, 1, 1, 1,
        1, 1, 1, 1, 1, 1, 1, 1, 1, 3,
        3, 3, 3, 3, 3, 3, 2, 3, 3, 3,
        3, 1, 1, 1, 1, 1, 1, 1, 2, 2,
        1, 1, 1, 1, 2, 1, 1, 1, 1, 1,
        1, 1, 2, 2, 2, 2, 1, 1, 1, 1,
        1, 3
    };

    /** The stack with which a handler is come to. */
    private static final int[] CAUGHT = {REF};

    // Exceptions, and what else the doing of an instruction may come to.
    private static final int NULL_USED = 1, BY_ZERO = 2, WRONG_CLASS = 3, WRONG_SIZE = 4, WRONG_INDEX = 5;
    private static final int NO_METHOD = 6, NO_THREAD = 7, WRONG_MONITOR = 8, NO_ROOM = 9, THROWN = 10;
    private static final int GOES_ON = 0, MOVED = -1;

    private final Source source = new Source();
    private final Linker linker = new Linker(source);
    private final Image linked = new Image(IMAGE_ROOM);
    private final Image fed = new Image(FED);
    private final Engine engine = new Engine();
    private final Turns turns = new Turns(engine);

    public PocketMachine() {
    }

    public int cls(int above, int ints, int refs) {
        return source.addKind(above, ints, refs);
    }

    public int method(int cls, int name, int arguments, int references, int returns, int locals) {
        return source.addRoutine(cls, name, arguments, references, returns, locals);
    }

    public int code(int instruction, int operand) {
        return source.addInstruction(instruction, operand);
    }

    public int trap(int from, int to, int handler, int what) {
        return source.addTrap(from, to, handler, what);
    }

    public int link(int main) {
        return source.isMain(main) ? linker.produce(main, linked) : BAD;
    }

    public int image(int i) {
        return i >= 0 && i < linked.length ? linked.at(i) : BAD;
    }

    public boolean feed(int b) {
        return within(b, 0, 255) && fed.put(b);
    }

    public int check() {
        int verdict = fed.compareWith(linked);
        fed.clear();
        return verdict;
    }

    public boolean boot(int quantum, int heap) {
        if (linked.length == 0 || !within(quantum, 1, MOST_QUANTUM) || !within(heap, LEAST_HEAP, MOST_HEAP)) {
            return false;
        }
        engine.start(linked, heap);
        turns.start(quantum);
        return true;
    }

    public boolean input(int v) {
        return engine.booted && engine.ports.offer(v);
    }

    public int run(int instructions) {
        return engine.booted && within(instructions, 1, MOST_STEPS) ? turns.advance(instructions) : BAD;
    }

    public int out(int i) {
        return engine.ports.sent(i);
    }

    public int thread(int t, int what) {
        return engine.tellThread(t, what);
    }

    public boolean sound() {
        return engine.isSound();
    }

    public int told(int what) {
        switch (what) {
            case 0: return source.kindCount;
            case 1: return source.routineCount;
            case 2: return linked.length;
            case 3: return turns.done;
            case 4: return engine.begun;
            case 5: return engine.memory.used();
            case 6: return engine.memory.collections;
            case 7: return engine.ports.sentCount;
            case 8: return engine.ports.left;
            case 9: return fed.length;
            default: return BAD;
        }
    }

    private static boolean within(int value, int least, int most) {
        return value >= least && value <= most;
    }

    private static int bytesOf(int op) {
        return within(op, 0, WIDE_CONSTANT) ? BYTES[op] : 1;
    }

    private static boolean jumps(int op) {
        return within(op, GO, IF_LESS);
    }

    private static boolean usesField(int op) {
        return within(op, GET_INT, SET_REF);
    }

    /** A method of the source. */
    private static final class Routine {
        int owner;
        int name;
        int arguments;
        int references;
        int returns;
        int locals;
        int length;
        final int[] ops = new int[CODE];
        final int[] operands = new int[CODE];
        int traps;
        final int[] from = new int[TRAPS];
        final int[] to = new int[TRAPS];
        final int[] handler = new int[TRAPS];
        final int[] what = new int[TRAPS];

        boolean isStatic() {
            return name == NONE;
        }

        int taken() {
            return isStatic() ? arguments : arguments + 1;
        }

        int takenKind(int local) {
            if (!isStatic() && local == 0) {
                return REF;
            }
            int argument = isStatic() ? local : local - 1;
            return (references >> argument & 1) == 1 ? REF : INT;
        }
    }

    /** All classes and methods as they were told. */
    private static final class Source {
        final Routine[] routines = new Routine[METHODS];
        int kindCount;
        int routineCount;
        private final int[] above = new int[CLASSES];
        private final int[] ints = new int[CLASSES];
        private final int[] refs = new int[CLASSES];
        private final int[] allInts = new int[CLASSES];
        private final int[] allRefs = new int[CLASSES];
        private final int[] own = new int[CLASSES * NAMES];
        private final int[] firstOfName = new int[NAMES];

        Source() {
            Arrays.fill(own, BAD);
            Arrays.fill(firstOfName, BAD);
        }

        boolean isKind(int c) {
            return c >= 0 && c < kindCount && c < CLASSES;
        }

        boolean isRoutine(int m) {
            return m >= 0 && m < routineCount && m < METHODS && routines[m] != null;
        }

        boolean isStaticRoutine(int m) {
            return isRoutine(m) && routines[m].isStatic();
        }

        boolean isMain(int m) {
            return isStaticRoutine(m) && routines[m].arguments == 0;
        }

        int addKind(int over, int ownInts, int ownRefs) {
            boolean fits = (over == BAD || isKind(over)) && within(ownInts, 0, FIELDS) && within(ownRefs, 0, FIELDS);
            if (!fits || kindCount >= CLASSES) {
                return BAD;
            }
            above[kindCount] = over;
            ints[kindCount] = ownInts;
            refs[kindCount] = ownRefs;
            allInts[kindCount] = ownInts + allInts(over);
            allRefs[kindCount] = ownRefs + allRefs(over);
            return kindCount++;
        }

        int above(int c) {
            return isKind(c) ? above[c] : BAD;
        }

        /** A class's int fields with those above. */
        int allInts(int c) {
            return isKind(c) ? allInts[c] : 0;
        }

        int allRefs(int c) {
            return isKind(c) ? allRefs[c] : 0;
        }

        int addRoutine(int owner, int name, int arguments, int references, int returns, int locals) {
            boolean fits = isKind(owner) && (name == NONE || within(name, 0, NAMES - 1))
                    && within(arguments, 0, ARGUMENTS) && within(returns, 0, 2);
            if (!fits || routineCount >= METHODS || !within(references, 0, (1 << arguments) - 1)) {
                return BAD;
            }
            int taken = name == NONE ? arguments : arguments + 1;
            if (!within(locals, taken, LOCALS) || ownRoutine(owner, name) != BAD
                    || !agrees(name, arguments, references, returns)) {
                return BAD;
            }
            Routine routine = new Routine();
            routine.owner = owner;
            routine.name = name;
            routine.arguments = arguments;
            routine.references = references;
            routine.returns = returns;
            routine.locals = locals;
            routines[routineCount] = routine;
            enlist(routine, routineCount);
            return routineCount++;
        }

        /** Whether the others of the name take and return the same. */
        private boolean agrees(int name, int arguments, int references, int returns) {
            int first = routineOfName(name);
            return !isRoutine(first) || routines[first].arguments == arguments
                    && routines[first].references == references && routines[first].returns == returns;
        }

        private void enlist(Routine routine, int number) {
            if (!within(routine.name, 0, NAMES - 1) || !isKind(routine.owner)) {
                return;
            }
            own[routine.owner * NAMES + routine.name] = number;
            if (firstOfName[routine.name] == BAD) {
                firstOfName[routine.name] = number;
            }
        }

        int addInstruction(int op, int operand) {
            int last = routineCount - 1;
            if (!isRoutine(last) || !within(op, 0, LAST_INSTRUCTION) || routines[last].length >= CODE) {
                return BAD;
            }
            Routine routine = routines[last];
            routine.ops[routine.length] = op;
            routine.operands[routine.length] = operand;
            return routine.length++;
        }

        int addTrap(int from, int to, int handler, int what) {
            int last = routineCount - 1;
            if (!isRoutine(last) || routines[last].traps >= TRAPS) {
                return BAD;
            }
            Routine routine = routines[last];
            routine.from[routine.traps] = from;
            routine.to[routine.traps] = to;
            routine.handler[routine.traps] = handler;
            routine.what[routine.traps] = what;
            routine.traps++;
            return routine.traps;
        }

        /** Any method of the name: they all take and return the same. */
        int routineOfName(int name) {
            return within(name, 0, NAMES - 1) ? firstOfName[name] : BAD;
        }

        int ownRoutine(int c, int name) {
            return isKind(c) && within(name, 0, NAMES - 1) ? own[c * NAMES + name] : BAD;
        }

        /** The method that a call by name finds for an object of the class. */
        int nearest(int c, int name) {
            int at = c;
            for (int n = 0; n < CLASSES && isKind(at); n++) {
                int found = ownRoutine(at, name);
                if (found != BAD) {
                    return found;
                }
                at = above[at];
            }
            return BAD;
        }

        boolean canBegin() {
            int first = routineOfName(0);
            return isRoutine(first) && routines[first].arguments == 0;
        }

        /** The class that the operand of 27 .. 30 names. */
        int fieldKind(int operand) {
            return operand >= 0 && isKind(operand / 8) ? operand / 8 : BAD;
        }

        boolean isField(int op, int operand) {
            int c = fieldKind(operand);
            if (!isKind(c)) {
                return false;
            }
            int fields = op == GET_INT || op == SET_INT ? ints[c] : refs[c];
            return operand % 8 < fields;
        }

        /** The field's number in an object: the fields of the classes above come first. */
        int fieldNumber(int op, int operand) {
            int over = above(fieldKind(operand));
            int before = op == GET_INT || op == SET_INT ? allInts(over) : allRefs(over);
            return before + operand % 8;
        }
    }

    /** Which methods and classes a main method reaches, and their new numbers. */
    private static final class Reach {
        int kindCount;
        int routineCount;
        private final Source source;
        private final boolean[] kinds = new boolean[CLASSES];
        private final boolean[] made = new boolean[CLASSES];
        private final boolean[] routines = new boolean[METHODS];
        private final boolean[] scanned = new boolean[METHODS];
        private final boolean[] called = new boolean[NAMES];
        private final int[] kindNumbers = new int[CLASSES];
        private final int[] routineNumbers = new int[METHODS];

        Reach(Source source) {
            this.source = source;
        }

        void follow(int main) {
            clear();
            addRoutine(main);
            boolean more = true;
            for (int round = 0; more && round <= METHODS; round++) {
                more = scanNew();
                callByName();
            }
            addOwners();
            addAbove();
            number();
        }

        boolean hasKind(int c) {
            return source.isKind(c) && kinds[c];
        }

        boolean hasRoutine(int m) {
            return source.isRoutine(m) && routines[m];
        }

        int newKind(int c) {
            return hasKind(c) ? kindNumbers[c] : NO_NUMBER;
        }

        int newRoutine(int m) {
            return hasRoutine(m) ? routineNumbers[m] : NO_NUMBER;
        }

        private void clear() {
            for (int c = 0; c < CLASSES; c++) {
                kinds[c] = false;
                made[c] = false;
            }
            for (int m = 0; m < METHODS; m++) {
                routines[m] = false;
                scanned[m] = false;
            }
            for (int name = 0; name < NAMES; name++) {
                called[name] = false;
            }
        }

        private void addRoutine(int m) {
            if (source.isRoutine(m)) {
                routines[m] = true;
            }
        }

        private void addKind(int c) {
            if (source.isKind(c)) {
                kinds[c] = true;
            }
        }

        private boolean scanNew() {
            boolean any = false;
            for (int m = 0; m < METHODS; m++) {
                if (hasRoutine(m) && !scanned[m]) {
                    scanned[m] = true;
                    any = true;
                    scan(source.routines[m]);
                }
            }
            return any;
        }

        private void scan(Routine routine) {
            for (int i = 0; i < routine.length && i < CODE; i++) {
                scanInstruction(routine.ops[i], routine.operands[i]);
            }
            for (int t = 0; t < routine.traps && t < TRAPS; t++) {
                addKind(routine.what[t]);
            }
        }

        private void scanInstruction(int op, int operand) {
            if (op == MAKE && source.isKind(operand)) {
                made[operand] = true;
            }
            if (op == MAKE || op == IS_OF) {
                addKind(operand);
            } else if (usesField(op)) {
                addKind(source.fieldKind(operand));
            } else if (op == CALL && source.isStaticRoutine(operand)) {
                addRoutine(operand);
            } else if (op == CALL_NAME && within(operand, 0, NAMES - 1)) {
                called[operand] = true;
            } else if (op == BEGIN) {
                called[0] = true;
            }
        }

        private void callByName() {
            for (int c = 0; c < CLASSES; c++) {
                for (int name = 0; made[c] && name < NAMES; name++) {
                    if (called[name]) {
                        addRoutine(source.nearest(c, name));
                    }
                }
            }
        }

        private void addOwners() {
            for (int m = 0; m < METHODS; m++) {
                if (hasRoutine(m) && !source.routines[m].isStatic()) {
                    addKind(source.routines[m].owner);
                }
            }
        }

        private void addAbove() {
            // A class above is always a lesser one, so one way down meets them all.
            for (int c = CLASSES - 1; c >= 0; c--) {
                if (kinds[c]) {
                    addKind(source.above(c));
                }
            }
        }

        private void number() {
            kindCount = 0;
            for (int c = 0; c < CLASSES; c++) {
                if (kinds[c]) {
                    kindNumbers[c] = kindCount++;
                }
            }
            routineCount = 0;
            for (int m = 0; m < METHODS; m++) {
                if (routines[m]) {
                    routineNumbers[m] = routineCount++;
                }
            }
        }
    }

    /** Looks at a method's instructions with the kinds of values that they find. */
    private static final class Flow {
        static final int NOTHING_WRONG = -1, WRONG_TRAP = 99;
        private static final int LOOKS = CODE * (LOCALS + 2);

        int most;
        private final Source source;
        private final boolean[] seen = new boolean[CODE];
        private final boolean[] waiting = new boolean[CODE];
        private final int[] heights = new int[CODE];
        private final int[] stacks = new int[CODE * STACK];
        private final int[] locals = new int[CODE * LOCALS];
        private final int[] stack = new int[STACK];
        private final int[] local = new int[LOCALS];
        private int height;
        private int wrong;

        Flow(Source source) {
            this.source = source;
        }

        /** The number of the first wrong instruction. */
        int firstWrong(Routine routine) {
            if (routine.length == 0) {
                return 0;
            }
            if (!trapsFit(routine)) {
                return WRONG_TRAP;
            }
            begin(routine);
            for (int look = 0; look < LOOKS && wrong == NOTHING_WRONG; look++) {
                int i = lowestWaiting();
                if (i < 0) {
                    break;
                }
                lookAt(routine, i);
            }
            return wrong;
        }

        boolean wasSeen(int i) {
            return within(i, 0, CODE - 1) && seen[i];
        }

        private boolean trapsFit(Routine routine) {
            for (int t = 0; t < routine.traps && t < TRAPS; t++) {
                boolean range = routine.from[t] >= 0 && routine.from[t] < routine.to[t]
                        && routine.to[t] <= routine.length;
                boolean what = source.isKind(routine.what[t]) || within(routine.what[t], -10, -1);
                if (!range || !what || !within(routine.handler[t], 0, routine.length - 1)) {
                    return false;
                }
            }
            return true;
        }

        private void begin(Routine routine) {
            for (int i = 0; i < CODE; i++) {
                seen[i] = false;
                waiting[i] = false;
            }
            most = 0;
            wrong = NOTHING_WRONG;
            height = 0;
            Arrays.fill(local, UNSET);
            for (int l = 0; l < routine.taken() && l < LOCALS; l++) {
                local[l] = routine.takenKind(l);
            }
            comeTo(0, stack, 0);
        }

        private int lowestWaiting() {
            for (int i = 0; i < CODE; i++) {
                if (waiting[i]) {
                    return i;
                }
            }
            return BAD;
        }

        private void lookAt(Routine routine, int i) {
            if (!within(i, 0, CODE - 1)) {
                return;
            }
            waiting[i] = false;
            height = heights[i];
            System.arraycopy(stacks, i * STACK, stack, 0, STACK);
            System.arraycopy(locals, i * LOCALS, local, 0, LOCALS);
            comeToHandlers(routine, i);
            if (wrong != NOTHING_WRONG) {
                return;
            }
            int op = routine.ops[i];
            int operand = routine.operands[i];
            if (!possible(routine, op, operand) || !apply(op, operand)) {
                wrong = i;
                return;
            }
            if (jumps(op)) {
                comeTo(operand, stack, height);
            }
            boolean ends = op == GO || within(op, RETURN, THROW);
            if (wrong != NOTHING_WRONG || ends) {
                return;
            }
            if (i + 1 < routine.length) {
                comeTo(i + 1, stack, height);
            } else {
                wrong = i;
            }
        }

        private void comeToHandlers(Routine routine, int i) {
            for (int t = 0; t < routine.traps && t < TRAPS; t++) {
                if (wrong == NOTHING_WRONG && routine.from[t] <= i && i < routine.to[t]) {
                    comeTo(routine.handler[t], CAUGHT, CAUGHT.length);
                }
            }
        }

        private void comeTo(int i, int[] kinds, int count) {
            if (!within(i, 0, CODE - 1) || !within(count, 0, Math.min(STACK, kinds.length))) {
                return;
            }
            if (!seen[i]) {
                seen[i] = true;
                waiting[i] = true;
                heights[i] = count;
                most = Math.max(most, count);
                System.arraycopy(kinds, 0, stacks, i * STACK, count);
                System.arraycopy(local, 0, locals, i * LOCALS, LOCALS);
            } else if (!sameStack(i, kinds, count)) {
                wrong = i;
            } else {
                mergeLocals(i);
            }
        }

        private boolean sameStack(int i, int[] kinds, int count) {
            if (heights[i] != count) {
                return false;
            }
            for (int s = 0; s < count; s++) {
                if (stacks[i * STACK + s] != kinds[s]) {
                    return false;
                }
            }
            return true;
        }

        private void mergeLocals(int i) {
            for (int l = 0; l < LOCALS; l++) {
                int at = i * LOCALS + l;
                if (locals[at] != UNSET && locals[at] != local[l]) {
                    locals[at] = UNSET;
                    waiting[i] = true;
                }
            }
        }

        private boolean possible(Routine routine, int op, int operand) {
            if (jumps(op)) {
                return within(operand, 0, routine.length - 1);
            }
            if (usesField(op)) {
                return source.isField(op, operand);
            }
            if (within(op, GET_INT_STATIC, SET_REF_STATIC)) {
                return within(operand, 0, STATICS - 1);
            }
            if (within(op, RETURN, RETURN_REF)) {
                return op - RETURN == routine.returns;
            }
            switch (op) {
                case CONSTANT: return within(operand, -32768, 32767);
                case LOAD: case STORE: return within(operand, 0, routine.locals - 1);
                case MAKE: case IS_OF: return source.isKind(operand);
                case CALL: return source.isStaticRoutine(operand);
                case CALL_NAME: return source.routineOfName(operand) != BAD;
                case BEGIN: return source.canBegin();
                default: return true;
            }
        }

        /** Takes and puts what the instruction does; false: it can't. */
        private boolean apply(int op, int operand) {
            switch (op) {
                case LOAD: return within(operand, 0, LOCALS - 1) && local[operand] != UNSET && put(local[operand]);
                case STORE: return takeTo(operand);
                case COPY: return within(height, 1, STACK) && put(stack[height - 1]);
                case SWAP: return swap();
                case CALL: return applyCall(operand);
                case CALL_NAME: return applyCall(source.routineOfName(operand));
                default: return applyFixed(op);
            }
        }

        private boolean applyFixed(int op) {
            if (!within(op, 0, LAST_INSTRUCTION)) {
                return false;
            }
            for (int kinds = TAKES[op]; kinds > 0; kinds >>= 4) {
                if (!take(kinds & 15)) {
                    return false;
                }
            }
            return PUTS[op] == UNSET || put(PUTS[op]);
        }

        private boolean applyCall(int m) {
            if (!source.isRoutine(m)) {
                return false;
            }
            Routine routine = source.routines[m];
            for (int l = routine.taken() - 1; l >= 0; l--) {
                if (!take(routine.takenKind(l))) {
                    return false;
                }
            }
            return routine.returns == 0 || put(routine.returns == 1 ? INT : REF);
        }

        private boolean takeTo(int l) {
            if (!within(l, 0, LOCALS - 1) || !take(ANY)) {
                return false;
            }
            local[l] = stack[height];
            return true;
        }

        private boolean swap() {
            if (!within(height, 2, STACK)) {
                return false;
            }
            int upper = stack[height - 1];
            stack[height - 1] = stack[height - 2];
            stack[height - 2] = upper;
            return true;
        }

        private boolean take(int kind) {
            if (!within(height, 1, STACK)) {
                return false;
            }
            height--;
            return kind == ANY || stack[height] == kind;
        }

        private boolean put(int kind) {
            if (!within(height, 0, STACK - 1)) {
                return false;
            }
            stack[height] = kind;
            height++;
            return true;
        }
    }

    /** An image of bytes, with what a run of it needs of the source beside it. */
    private static final class Image {
        int length;
        private final int room;
        private int[] bytes = new int[64];
        private final int[] headOf = new int[METHODS];
        private final int[] takenByName = new int[NAMES];
        private final int[] sourceKind = new int[CLASSES];

        Image(int room) {
            this.room = room;
        }

        void clear() {
            length = 0;
        }

        /** One more byte; false: there is no room. */
        boolean put(int b) {
            if (length >= room) {
                return false;
            }
            if (length >= bytes.length) {
                bytes = Arrays.copyOf(bytes, 2 * length);
            }
            bytes[length] = b & 255;
            length++;
            return true;
        }

        void putTwo(int value) {
            put(value >> 8);
            put(value);
        }

        /** Notes that the head of this method begins where the next byte goes. */
        void noteHead(int m) {
            if (within(m, 0, METHODS - 1)) {
                headOf[m] = length;
            }
        }

        void noteSourceKind(int c, int inSource) {
            if (within(c, 0, CLASSES - 1)) {
                sourceKind[c] = inSource;
            }
        }

        void noteTaken(int name, int taken) {
            if (within(name, 0, NAMES - 1)) {
                takenByName[name] = taken;
            }
        }

        void seal() {
            if (length < HEAD_BYTES || bytes.length < HEAD_BYTES) {
                return;
            }
            bytes[5] = length >> 8 & 255;
            bytes[6] = length & 255;
            int sum = sum();
            bytes[7] = sum >> 8;
            bytes[8] = sum & 255;
        }

        /** The SUM of all bytes but the two that hold it. */
        private int sum() {
            int sum = 0;
            for (int i = 0; i < length && i < bytes.length; i++) {
                sum += i == 7 || i == 8 ? 0 : bytes[i];
            }
            return sum & 65535;
        }

        void copyFrom(Image other) {
            if (bytes.length < other.bytes.length) {
                bytes = new int[other.bytes.length];
            }
            length = Math.min(other.length, other.bytes.length);
            System.arraycopy(other.bytes, 0, bytes, 0, length);
            System.arraycopy(other.headOf, 0, headOf, 0, METHODS);
            System.arraycopy(other.takenByName, 0, takenByName, 0, NAMES);
            System.arraycopy(other.sourceKind, 0, sourceKind, 0, CLASSES);
        }

        /** What check() answers of these bytes. */
        int compareWith(Image other) {
            if (length < HEAD_BYTES || at(0) != FIRST_BYTE || at(1) != SECOND_BYTE) {
                return 1;
            }
            if (two(5) != length) {
                return 2;
            }
            if (two(7) != sum()) {
                return 3;
            }
            return isSame(other) ? 0 : 4;
        }

        private boolean isSame(Image other) {
            if (length != other.length) {
                return false;
            }
            for (int i = 0; i < length; i++) {
                if (at(i) != other.at(i)) {
                    return false;
                }
            }
            return true;
        }

        int at(int i) {
            return i >= 0 && i < length && i < bytes.length ? bytes[i] : 0;
        }

        int two(int i) {
            return at(i) << 8 | at(i + 1);
        }

        int kinds() {
            return at(2);
        }

        int main() {
            return at(4);
        }

        int headAt(int m) {
            return within(m, 0, METHODS - 1) ? headOf[m] : 0;
        }

        int codeAt(int m) {
            return two(headAt(m));
        }

        int takenBy(int m) {
            return at(headAt(m) + 4);
        }

        int takenByName(int name) {
            return within(name, 0, NAMES - 1) ? takenByName[name] : 1;
        }

        int sourceKind(int c) {
            return within(c, 0, CLASSES - 1) ? sourceKind[c] : 0;
        }

        private int kindAt(int c) {
            return HEAD_BYTES + c * CLASS_BYTES;
        }

        int allInts(int c) {
            return at(kindAt(c) + 1);
        }

        int allRefs(int c) {
            return at(kindAt(c) + 2);
        }

        int routineFor(int c, int name) {
            return at(kindAt(c) + 3 + name);
        }

        /** Whether class c is the other one, or below it. */
        boolean isBelow(int c, int other) {
            int at = c;
            for (int n = 0; n < CLASSES && at < at(2); n++) {
                if (at == other) {
                    return true;
                }
                at = at(kindAt(at));
            }
            return false;
        }
    }

    /** Makes an image of what a main method reaches. */
    private static final class Linker {
        private final Source source;
        private final Reach reach;
        private final Flow flow;
        private final boolean[] seen = new boolean[METHODS * CODE];
        private final int[] most = new int[METHODS];
        private final int[] offsets = new int[CODE + 1];

        Linker(Source source) {
            this.source = source;
            this.reach = new Reach(source);
            this.flow = new Flow(source);
        }

        /** Writes the image, and answers its length, or what is wrong; then the image stays as it was. */
        int produce(int main, Image image) {
            reach.follow(main);
            for (int m = 0; m < METHODS; m++) {
                if (reach.hasRoutine(m)) {
                    int wrong = flow.firstWrong(source.routines[m]);
                    if (wrong != Flow.NOTHING_WRONG) {
                        return -1000 - 100 * m - wrong;
                    }
                    keepFlow(m);
                }
            }
            write(main, image);
            return image.length;
        }

        private void keepFlow(int m) {
            if (!within(m, 0, METHODS - 1)) {
                return;
            }
            most[m] = flow.most;
            for (int i = 0; i < CODE; i++) {
                seen[m * CODE + i] = flow.wasSeen(i);
            }
        }

        private void write(int main, Image image) {
            image.clear();
            image.put(FIRST_BYTE);
            image.put(SECOND_BYTE);
            image.put(reach.kindCount);
            image.put(reach.routineCount);
            image.put(reach.newRoutine(main));
            image.putTwo(0);
            image.putTwo(0);
            for (int c = 0; c < CLASSES; c++) {
                if (reach.hasKind(c)) {
                    writeKind(image, c);
                }
            }
            int codeAt = HEAD_BYTES + CLASS_BYTES * reach.kindCount + headBytes();
            for (int m = 0; m < METHODS; m++) {
                if (reach.hasRoutine(m)) {
                    codeAt += writeHead(image, m, codeAt);
                }
            }
            for (int m = 0; m < METHODS; m++) {
                if (reach.hasRoutine(m)) {
                    writeCode(image, m);
                }
            }
            image.seal();
            noteNames(image);
        }

        private void writeKind(Image image, int c) {
            image.noteSourceKind(reach.newKind(c), c);
            image.put(reach.newKind(source.above(c)));
            image.put(source.allInts(c));
            image.put(source.allRefs(c));
            for (int name = 0; name < NAMES; name++) {
                image.put(reach.newRoutine(source.nearest(c, name)));
            }
        }

        private int headBytes() {
            int sum = 0;
            for (int m = 0; m < METHODS; m++) {
                if (reach.hasRoutine(m)) {
                    sum += METHOD_BYTES + TRAP_BYTES * source.routines[m].traps;
                }
            }
            return sum;
        }

        /** Writes a method's head, and answers how long its code is. */
        private int writeHead(Image image, int m, int codeAt) {
            if (!reach.hasRoutine(m)) {
                return 0;
            }
            Routine routine = source.routines[m];
            findOffsets(routine, m);
            int length = offsetOf(routine.length);
            image.noteHead(reach.newRoutine(m));
            image.putTwo(codeAt);
            image.putTwo(length);
            image.put(routine.taken());
            image.put(routine.locals);
            image.put(most[m]);
            image.put(routine.returns);
            image.put(routine.traps);
            for (int t = 0; t < routine.traps && t < TRAPS; t++) {
                image.putTwo(offsetOf(routine.from[t]));
                image.putTwo(offsetOf(routine.to[t]));
                image.putTwo(offsetOf(routine.handler[t]));
                image.put(routine.what[t] < 0 ? 256 + routine.what[t] : reach.newKind(routine.what[t]));
            }
            return length;
        }

        private void findOffsets(Routine routine, int m) {
            int offset = 0;
            for (int i = 0; i < CODE; i++) {
                offsets[i] = offset;
                offset += wasSeen(m, i) ? bytesOf(writtenOp(routine.ops[i], routine.operands[i])) : 1;
            }
            offsets[CODE] = offset;
        }

        private boolean wasSeen(int m, int i) {
            return within(m, 0, METHODS - 1) && within(i, 0, CODE - 1) && seen[m * CODE + i];
        }

        private int offsetOf(int i) {
            return within(i, 0, CODE) ? offsets[i] : 0;
        }

        private int writtenOp(int op, int operand) {
            return op == CONSTANT && !within(operand, -128, 127) ? WIDE_CONSTANT : op;
        }

        private void writeCode(Image image, int m) {
            if (!reach.hasRoutine(m)) {
                return;
            }
            Routine routine = source.routines[m];
            findOffsets(routine, m);
            for (int i = 0; i < routine.length && i < CODE; i++) {
                if (wasSeen(m, i)) {
                    writeInstruction(image, routine.ops[i], routine.operands[i]);
                } else {
                    image.put(0);
                }
            }
        }

        private void writeInstruction(Image image, int op, int operand) {
            int written = writtenOp(op, operand);
            image.put(written);
            if (jumps(op)) {
                image.putTwo(offsetOf(operand));
            } else if (usesField(op)) {
                image.put(reach.newKind(source.fieldKind(operand)));
                image.put(source.fieldNumber(op, operand));
            } else if (written == WIDE_CONSTANT) {
                image.putTwo(operand);
            } else if (op == MAKE || op == IS_OF) {
                image.put(reach.newKind(operand));
            } else if (op == CALL) {
                image.put(reach.newRoutine(operand));
            } else if (bytesOf(op) == 2) {
                image.put(operand);
            }
        }

        /** A call by name may meet no reached method, and has to know what it takes all the same. */
        private void noteNames(Image image) {
            for (int name = 0; name < NAMES; name++) {
                int m = source.routineOfName(name);
                image.noteTaken(name, source.isRoutine(m) ? source.routines[m].taken() : 1);
            }
        }
    }

    /** Inputs that are left, and the ints that went out. */
    private static final class Ports {
        int left;
        int sentCount;
        private int next;
        private final int[] inputs = new int[INPUTS];
        private final int[] outputs = new int[OUTPUTS];

        void clear() {
            left = 0;
            next = 0;
            sentCount = 0;
        }

        boolean offer(int v) {
            if (left >= INPUTS) {
                return false;
            }
            int at = next + left;
            at = at < INPUTS ? at : at - INPUTS;
            if (within(at, 0, INPUTS - 1)) {
                inputs[at] = v;
            }
            left++;
            return true;
        }

        int receive() {
            if (left <= 0 || !within(next, 0, INPUTS - 1)) {
                return 0;
            }
            int v = inputs[next];
            next = next + 1 < INPUTS ? next + 1 : 0;
            left--;
            return v;
        }

        void send(int v) {
            if (within(sentCount, 0, OUTPUTS - 1)) {
                outputs[sentCount] = v;
            }
            sentCount++;
        }

        int sent(int i) {
            return i >= 0 && i < sentCount && i < OUTPUTS ? outputs[i] : NONE;
        }
    }

    /**
     * Objects, one behind the other in words of sixteen bits. A reference is the number of an
     * object's first word; word 0 belongs to none, so that 0 is null.
     */
    private static final class Memory {
        static final int INT_ARRAY = 254, REF_ARRAY = 255;
        private static final int WORDS = MOST_HEAP / 2 + 1, FIRST = 1, HEAD = 4, ARRAY_HEAD = 5;
        // The words of a head: what it is, which thread entered its monitor, how often, where it goes.
        private static final int OWNER = 1, ENTRIES = 2, FORWARD = 3, PLACES = 4;

        int collections;
        // These rows are made at the first boot: many an object is never booted.
        private char[] words = new char[0];
        private int[] todo = new int[0];
        private boolean[] begins = new boolean[0];
        private final int[] ints = new int[CLASSES];
        private final int[] refs = new int[CLASSES];
        private int todoCount;
        private int top = FIRST;
        private int limit;

        void start(Image image, int heap) {
            if (words.length < WORDS) {
                words = new char[WORDS];
                todo = new int[WORDS / HEAD + 1];
                begins = new boolean[WORDS];
            }
            for (int c = 0; c < CLASSES; c++) {
                ints[c] = c < image.kinds() ? image.allInts(c) : 0;
                refs[c] = c < image.kinds() ? image.allRefs(c) : 0;
            }
            limit = heap;
            top = FIRST;
            collections = 0;
        }

        int used() {
            return 2 * (top - FIRST);
        }

        int bytesFor(int kind, int length) {
            return 2 * wordsFor(kind, length);
        }

        private int wordsFor(int kind, int length) {
            if (kind >= 0 && kind < CLASSES) {
                return HEAD + 2 * ints[kind] + refs[kind];
            }
            return ARRAY_HEAD + (kind == INT_ARRAY ? 2 * length : length);
        }

        boolean hasRoomFor(int bytes) {
            return used() + bytes <= limit;
        }

        /** A new object, where hasRoomFor() has said that there is room. */
        int place(int kind, int length) {
            int size = wordsFor(kind, length);
            if (size < HEAD || top + size > words.length) {
                return 0;
            }
            int ref = top;
            for (int w = ref; w < ref + size; w++) {
                words[w] = 0;
            }
            words[ref] = (char) kind;
            if (kind == INT_ARRAY || kind == REF_ARRAY) {
                setWord(ref + PLACES, length);
            }
            top += size;
            return ref;
        }

        private int word(int at) {
            return at >= 0 && at < words.length ? words[at] : 0;
        }

        private void setWord(int at, int value) {
            if (at >= FIRST && at < words.length) {
                words[at] = (char) value;
            }
        }

        private int intAt(int at) {
            return word(at) << 16 | word(at + 1);
        }

        private void setIntAt(int at, int value) {
            setWord(at, value >>> 16);
            setWord(at + 1, value);
        }

        int kindOf(int ref) {
            return word(ref);
        }

        boolean isArray(int ref) {
            int kind = word(ref);
            return kind == INT_ARRAY || kind == REF_ARRAY;
        }

        int lengthOf(int ref) {
            return isArray(ref) ? word(ref + PLACES) : 0;
        }

        int intField(int ref, int number) {
            return intAt(ref + HEAD + 2 * number);
        }

        void setIntField(int ref, int number, int value) {
            setIntAt(ref + HEAD + 2 * number, value);
        }

        int refField(int ref, int number) {
            return word(firstRef(ref) + number);
        }

        void setRefField(int ref, int number, int value) {
            setWord(firstRef(ref) + number, value);
        }

        int intPlace(int ref, int i) {
            return intAt(ref + ARRAY_HEAD + 2 * i);
        }

        void setIntPlace(int ref, int i, int value) {
            setIntAt(ref + ARRAY_HEAD + 2 * i, value);
        }

        int refPlace(int ref, int i) {
            return word(ref + ARRAY_HEAD + i);
        }

        void setRefPlace(int ref, int i, int value) {
            setWord(ref + ARRAY_HEAD + i, value);
        }

        int ownerOf(int ref) {
            return word(ref + OWNER);
        }

        int entriesOf(int ref) {
            return word(ref + ENTRIES);
        }

        void setMonitor(int ref, int owner, int entries) {
            setWord(ref + OWNER, owner);
            setWord(ref + ENTRIES, entries);
        }

        /** Where the references that an object holds begin. */
        private int firstRef(int ref) {
            int kind = word(ref);
            return within(kind, 0, CLASSES - 1) ? ref + HEAD + 2 * ints[kind] : ref + ARRAY_HEAD;
        }

        private int refsIn(int ref) {
            int kind = word(ref);
            if (within(kind, 0, CLASSES - 1)) {
                return refs[kind];
            }
            return kind == REF_ARRAY ? word(ref + PLACES) : 0;
        }

        private int sizeAt(int ref) {
            return wordsFor(word(ref), word(ref + PLACES));
        }

        void beginMarking() {
            todoCount = 0;
        }

        /** Marks what a row leads to, in the places whose mark says that they hold a reference. */
        void markRow(int[] values, int[] marks, int count) {
            for (int i = 0; i < count && i < values.length && i < marks.length; i++) {
                if (marks[i] != 0) {
                    mark(values[i]);
                }
            }
        }

        private void mark(int ref) {
            if (ref < FIRST || ref + HEAD > top || word(ref + FORWARD) != 0 || todoCount >= todo.length) {
                return;
            }
            setWord(ref + FORWARD, 1);
            todo[todoCount] = ref;
            todoCount++;
        }

        /** Marks what the marked ones lead to, and says where each of them will go. */
        void plan() {
            for (int n = 0; n < todoCount && n < todo.length; n++) {
                int first = firstRef(todo[n]);
                int count = refsIn(todo[n]);
                for (int i = 0; i < count; i++) {
                    mark(word(first + i));
                }
            }
            int free = FIRST;
            for (int ref = FIRST; ref < top; ref += Math.max(HEAD, sizeAt(ref))) {
                if (word(ref + FORWARD) != 0) {
                    setWord(ref + FORWARD, free);
                    free += sizeAt(ref);
                }
            }
        }

        void forwardRow(int[] values, int[] marks, int count) {
            for (int i = 0; i < count && i < values.length && i < marks.length; i++) {
                if (marks[i] != 0) {
                    values[i] = forwarded(values[i]);
                }
            }
        }

        private int forwarded(int ref) {
            return ref == 0 ? 0 : word(ref + FORWARD);
        }

        /** Moves the marked ones together; the others are gone. */
        void slide() {
            int free = FIRST;
            int size = HEAD;
            for (int ref = FIRST; ref < top; ref += Math.max(HEAD, size)) {
                size = sizeAt(ref);
                int to = word(ref + FORWARD);
                if (to >= FIRST && to <= ref && ref + size <= words.length) {
                    setWord(ref + FORWARD, 0);
                    System.arraycopy(words, ref, words, to, size);
                    free = to + size;
                }
            }
            top = free;
            collections++;
        }

        void forwardFields() {
            for (int n = 0; n < todoCount && n < todo.length; n++) {
                int first = firstRef(todo[n]);
                int count = refsIn(todo[n]);
                for (int i = 0; i < count; i++) {
                    setWord(first + i, forwarded(word(first + i)));
                }
            }
        }

        /** Whether objects lie one behind the other within memory; notes where each one begins. */
        boolean findBeginnings() {
            for (int w = 0; w < begins.length; w++) {
                begins[w] = false;
            }
            int end = FIRST;
            for (int ref = FIRST; ref < top && ref < begins.length; ref = end) {
                begins[ref] = true;
                end = ref + Math.max(HEAD, sizeAt(ref));
            }
            return end == top && used() <= limit && top <= words.length;
        }

        boolean rowLeadsWell(int[] values, int[] marks, int count) {
            for (int i = 0; i < count && i < values.length && i < marks.length; i++) {
                if (marks[i] != 0 && !leadsWell(values[i])) {
                    return false;
                }
            }
            return true;
        }

        private boolean leadsWell(int ref) {
            return ref == 0 || ref >= FIRST && ref < begins.length && begins[ref];
        }

        boolean fieldsLeadWell() {
            for (int ref = FIRST; ref < top; ref += Math.max(HEAD, sizeAt(ref))) {
                int first = firstRef(ref);
                int count = refsIn(ref);
                for (int i = 0; i < count; i++) {
                    if (!leadsWell(word(first + i))) {
                        return false;
                    }
                }
            }
            return true;
        }
    }

    /**
     * A thread: its methods one in another, each with locals and a stack behind them. Where the innermost
     * one is stands in fields; the rows keep it for those that wait for a call to return.
     */
    private static final class Strand {
        static final int ALIVE = 0, RETURNED = 1, FAILED = 2;
        private static final int SLOTS = DEPTH * FRAME;

        int state;
        int failure;
        int depth;
        int routine;
        int place;
        final int[] values = new int[SLOTS];
        /** 1 where the value is a reference; always 0 above a stack's top. */
        final int[] marks = new int[SLOTS];
        private int bottom;
        private int height;
        private final int[] routines = new int[DEPTH];
        private final int[] places = new int[DEPTH];
        private final int[] heights = new int[DEPTH];

        /** Starts with a method and its first local, and whether that is a reference. */
        void start(int first, int at, int value, int mark) {
            state = ALIVE;
            failure = 0;
            depth = 0;
            enter(first, at);
            values[0] = value;
            marks[0] = mark;
        }

        /** How many slots the methods that go on use. */
        int slots() {
            return depth * FRAME;
        }

        void enter(int next, int at) {
            if (depth < 0 || depth >= DEPTH) {
                return;
            }
            if (depth > 0) {
                routines[depth - 1] = routine;
                places[depth - 1] = place;
                heights[depth - 1] = height;
            }
            Arrays.fill(values, depth * FRAME, depth * FRAME + FRAME, 0);
            Arrays.fill(marks, depth * FRAME, depth * FRAME + FRAME, 0);
            routine = next;
            place = at;
            bottom = depth * FRAME + LOCALS;
            height = 0;
            depth++;
        }

        /** Enters a method that takes the topmost values; false: there are too many methods. */
        boolean enterTaking(int next, int at, int taken) {
            if (!within(depth, 1, DEPTH - 1) || !within(taken, 0, Math.min(height, STACK))) {
                return false;
            }
            height -= taken;
            int from = bottom + height;
            int to = depth * FRAME;
            enter(next, at);
            System.arraycopy(values, from, values, to, taken);
            System.arraycopy(marks, from, marks, to, taken);
            Arrays.fill(marks, from, from + taken, 0);
            return true;
        }

        void leave() {
            depth--;
            if (depth >= 1 && depth <= DEPTH) {
                routine = routines[depth - 1];
                place = places[depth - 1];
                height = heights[depth - 1];
                bottom = (depth - 1) * FRAME + LOCALS;
            }
        }

        void finish(int how, int why) {
            depth = 0;
            state = how;
            failure = why;
        }

        /** The slot of the value that has so many above it, or BAD. */
        private int slotUnder(int above) {
            int slot = bottom + height - 1 - above;
            return above >= 0 && above < height && slot < SLOTS ? slot : BAD;
        }

        private int slotOfLocal(int l) {
            int slot = bottom - LOCALS + l;
            return l >= 0 && l < LOCALS && slot >= 0 && slot < SLOTS ? slot : BAD;
        }

        int peek(int above) {
            int slot = slotUnder(above);
            return slot < 0 ? 0 : values[slot];
        }

        int pop() {
            int slot = slotUnder(0);
            if (slot < 0) {
                return 0;
            }
            height--;
            marks[slot] = 0;
            return values[slot];
        }

        void push(int value) {
            pushMarked(value, 0);
        }

        void pushRef(int ref) {
            pushMarked(ref, 1);
        }

        private void pushMarked(int value, int mark) {
            int slot = bottom + height;
            if (height >= 0 && height < STACK && slot < SLOTS) {
                values[slot] = value;
                marks[slot] = mark;
                height++;
            }
        }

        void load(int l) {
            int slot = slotOfLocal(l);
            if (slot >= 0) {
                pushMarked(values[slot], marks[slot]);
            }
        }

        void store(int l) {
            int from = slotUnder(0);
            int to = slotOfLocal(l);
            if (from >= 0 && to >= 0) {
                marks[to] = marks[from];
                values[to] = pop();
            }
        }

        void copyTop() {
            int slot = slotUnder(0);
            if (slot >= 0) {
                pushMarked(values[slot], marks[slot]);
            }
        }

        void swap() {
            int upper = slotUnder(0);
            int lower = slotUnder(1);
            if (upper < 0 || lower < 0) {
                return;
            }
            int value = values[upper];
            int mark = marks[upper];
            values[upper] = values[lower];
            marks[upper] = marks[lower];
            values[lower] = value;
            marks[lower] = mark;
        }

        /** Goes on at a handler with nothing but the reference on the stack. */
        void catchAt(int handler, int ref) {
            for (int n = 0; n < STACK && height > 0; n++) {
                pop();
            }
            place = handler;
            pushMarked(ref, 1);
        }
    }

    /** Does instructions of the image that was booted. */
    private static final class Engine {
        boolean booted;
        boolean turnEnded;
        int begun;
        final Memory memory = new Memory();
        final Ports ports = new Ports();
        final Strand[] strands = new Strand[THREADS];
        private final Image image = new Image(IMAGE_ROOM);
        private final int[] intStatics = new int[STATICS];
        private final int[] refStatics = new int[STATICS];
        private final int[] refStaticMarks = new int[STATICS];
        // What 43 throws, and its kind, until a handler is found.
        private int thrown;
        private int thrownKind;

        Engine() {
            Arrays.fill(refStaticMarks, 1);
        }

        void start(Image linked, int heap) {
            image.copyFrom(linked);
            memory.start(image, heap);
            ports.clear();
            Arrays.fill(intStatics, 0);
            Arrays.fill(refStatics, 0);
            booted = true;
            thrown = 0;
            begun = 0;
            beginStrand(image.main(), 0, 0);
        }

        /** One more thread: the first local of its method is the receiver, if it takes one. */
        private void beginStrand(int routine, int receiver, int mark) {
            if (!within(begun, 0, THREADS - 1)) {
                return;
            }
            if (strands[begun] == null) {
                strands[begun] = new Strand();
            }
            strands[begun].start(routine, image.codeAt(routine), receiver, mark);
            begun++;
        }

        boolean isStrand(int t) {
            return t >= 0 && t < begun && t < THREADS && strands[t] != null;
        }

        /** Whether a thread's next instruction can be done now. */
        boolean canGo(int t) {
            return isStrand(t) && strands[t].state == Strand.ALIVE && !waits(strands[t], t + 1);
        }

        /** Whether the next instruction enters a monitor that is not this owner's. */
        private boolean waits(Strand s, int owner) {
            if (image.at(s.place) != ENTER) {
                return false;
            }
            int ref = s.peek(0);
            int now = ref == 0 ? 0 : memory.ownerOf(ref);
            return now != 0 && now != owner;
        }

        /** Does the next instruction of a thread that can go. */
        void step(int t) {
            turnEnded = false;
            if (!isStrand(t)) {
                return;
            }
            Strand s = strands[t];
            int at = s.place;
            int op = image.at(at);
            int outcome;
            if (op <= STORE) {
                outcome = doPlain(s, op, at + 1);
            } else if (op <= RIGHT_UNSIGNED) {
                outcome = doArithmetic(s, op);
            } else if (jumps(op)) {
                outcome = doJump(s, op, at);
            } else if (op == MAKE || op == MAKE_INTS || op == MAKE_REFS) {
                outcome = doMake(s, op, image.at(at + 1));
            } else if (usesField(op)) {
                outcome = doField(s, op, at);
            } else if (op == LENGTH) {
                outcome = doLength(s);
            } else if (within(op, GET_INT_PLACE, SET_REF_PLACE)) {
                outcome = doPlace(s, op);
            } else if (within(op, CALL, THROW)) {
                outcome = doCall(s, op, image.at(at + 1));
            } else if (op == BEGIN) {
                outcome = doBegin(s.pop());
            } else if (op == ENTER || op == LEAVE) {
                outcome = doMonitor(s.pop(), op, t + 1);
            } else if (op == END_TURN) {
                turnEnded = true;
                outcome = GOES_ON;
            } else if (within(op, GET_INT_STATIC, SET_REF_STATIC)) {
                outcome = doStatic(s, op, image.at(at + 1));
            } else {
                outcome = doPlain(s, op, at + 1);
            }
            if (outcome == GOES_ON) {
                s.place = at + bytesOf(op);
            } else if (outcome > GOES_ON) {
                raise(s, outcome);
            }
        }

        private int doPlain(Strand s, int op, int operandAt) {
            int operand = image.at(operandAt);
            switch (op) {
                case CONSTANT: s.push((byte) operand); break;
                case WIDE_CONSTANT: s.push((short) image.two(operandAt)); break;
                case LOAD: s.load(operand); break;
                case STORE: s.store(operand); break;
                case COPY: s.copyTop(); break;
                case DROP: s.pop(); break;
                case SWAP: s.swap(); break;
                case IS_OF: s.push(isOf(s.pop(), operand) ? 1 : 0); break;
                case PUT_NULL: s.pushRef(0); break;
                case SEND: ports.send(s.pop()); break;
                case RECEIVE: s.push(ports.receive()); break;
                default: break;
            }
            return GOES_ON;
        }

        private int doArithmetic(Strand s, int op) {
            int upper = s.pop();
            if (op == NEGATE) {
                s.push(-upper);
                return GOES_ON;
            }
            int lower = s.pop();
            if ((op == DIVIDE || op == REST) && upper == 0) {
                return BY_ZERO;
            }
            s.push(reckon(op, lower, upper));
            return GOES_ON;
        }

        private static int reckon(int op, int lower, int upper) {
            switch (op) {
                case ADD: return lower + upper;
                case SUBTRACT: return lower - upper;
                case MULTIPLY: return lower * upper;
                case DIVIDE: return upper == 0 ? 0 : lower / upper;
                case REST: return upper == 0 ? 0 : lower % upper;
                case AND: return lower & upper;
                case OR: return lower | upper;
                case XOR: return lower ^ upper;
                case LEFT: return lower << upper;
                case RIGHT: return lower >> upper;
                case RIGHT_UNSIGNED: return lower >>> upper;
                default: return 0;
            }
        }

        private int doJump(Strand s, int op, int at) {
            if (!jumpsNow(s, op)) {
                return GOES_ON;
            }
            s.place = image.codeAt(s.routine) + image.two(at + 1);
            return MOVED;
        }

        private boolean jumpsNow(Strand s, int op) {
            if (op == GO) {
                return true;
            }
            int upper = s.pop();
            switch (op) {
                case IF_ZERO: case IF_NULL: return upper == 0;
                case IF_BELOW_ZERO: return upper < 0;
                case IF_ABOVE_ZERO: return upper > 0;
                case IF_SAME: return s.pop() == upper;
                case IF_LESS: return s.pop() < upper;
                default: return false;
            }
        }

        private int doField(Strand s, int op, int at) {
            int number = image.at(at + 2);
            int value = op == SET_INT || op == SET_REF ? s.pop() : 0;
            int ref = s.pop();
            if (ref == 0) {
                return NULL_USED;
            }
            if (!isOf(ref, image.at(at + 1))) {
                return WRONG_CLASS;
            }
            switch (op) {
                case GET_INT: s.push(memory.intField(ref, number)); break;
                case SET_INT: memory.setIntField(ref, number, value); break;
                case GET_REF: s.pushRef(memory.refField(ref, number)); break;
                default: memory.setRefField(ref, number, value); break;
            }
            return GOES_ON;
        }

        private boolean isOf(int ref, int c) {
            return ref != 0 && image.isBelow(memory.kindOf(ref), c);
        }

        private int doMake(Strand s, int op, int c) {
            int length = op == MAKE ? 0 : s.pop();
            if (!within(length, 0, MOST_PLACES)) {
                return WRONG_SIZE;
            }
            int kind = op == MAKE ? c : op == MAKE_INTS ? Memory.INT_ARRAY : Memory.REF_ARRAY;
            int bytes = memory.bytesFor(kind, length);
            if (!memory.hasRoomFor(bytes)) {
                collect();
            }
            if (!memory.hasRoomFor(bytes)) {
                return NO_ROOM;
            }
            s.pushRef(memory.place(kind, length));
            return GOES_ON;
        }

        private void collect() {
            memory.beginMarking();
            memory.markRow(refStatics, refStaticMarks, STATICS);
            for (int t = 0; t < THREADS && isStrand(t); t++) {
                memory.markRow(strands[t].values, strands[t].marks, strands[t].slots());
            }
            memory.plan();
            memory.forwardRow(refStatics, refStaticMarks, STATICS);
            for (int t = 0; t < THREADS && isStrand(t); t++) {
                memory.forwardRow(strands[t].values, strands[t].marks, strands[t].slots());
            }
            memory.forwardFields();
            memory.slide();
        }

        private int doLength(Strand s) {
            int ref = s.pop();
            if (ref == 0) {
                return NULL_USED;
            }
            if (!memory.isArray(ref)) {
                return WRONG_CLASS;
            }
            s.push(memory.lengthOf(ref));
            return GOES_ON;
        }

        private int doPlace(Strand s, int op) {
            boolean sets = op == SET_INT_PLACE || op == SET_REF_PLACE;
            boolean ints = op == GET_INT_PLACE || op == SET_INT_PLACE;
            int value = sets ? s.pop() : 0;
            int i = s.pop();
            int ref = s.pop();
            if (ref == 0) {
                return NULL_USED;
            }
            if (memory.kindOf(ref) != (ints ? Memory.INT_ARRAY : Memory.REF_ARRAY)) {
                return WRONG_CLASS;
            }
            if (i < 0 || i >= memory.lengthOf(ref)) {
                return WRONG_INDEX;
            }
            switch (op) {
                case GET_INT_PLACE: s.push(memory.intPlace(ref, i)); break;
                case SET_INT_PLACE: memory.setIntPlace(ref, i, value); break;
                case GET_REF_PLACE: s.pushRef(memory.refPlace(ref, i)); break;
                default: memory.setRefPlace(ref, i, value); break;
            }
            return GOES_ON;
        }

        private int doCall(Strand s, int op, int operand) {
            switch (op) {
                case CALL: return callStatic(s, operand);
                case CALL_NAME: return callName(s, operand);
                case THROW:
                    thrown = s.pop();
                    return thrown == 0 ? NULL_USED : THROWN;
                default: return giveBack(s, op);
            }
        }

        private int callStatic(Strand s, int routine) {
            return s.enterTaking(routine, image.codeAt(routine), image.takenBy(routine)) ? MOVED : NO_ROOM;
        }

        private int callName(Strand s, int name) {
            int taken = image.takenByName(name);
            int receiver = s.peek(taken - 1);
            if (receiver == 0) {
                return NULL_USED;
            }
            int routine = routineOf(receiver, name);
            if (routine == NO_NUMBER) {
                return NO_METHOD;
            }
            return s.enterTaking(routine, image.codeAt(routine), taken) ? MOVED : NO_ROOM;
        }

        private int routineOf(int ref, int name) {
            return memory.isArray(ref) ? NO_NUMBER : image.routineFor(memory.kindOf(ref), name);
        }

        private int giveBack(Strand s, int op) {
            int value = op == RETURN ? 0 : s.pop();
            s.leave();
            if (s.depth == 0) {
                s.finish(Strand.RETURNED, 0);
                return MOVED;
            }
            s.place += bytesOf(CALL);
            if (op == RETURN_INT) {
                s.push(value);
            } else if (op == RETURN_REF) {
                s.pushRef(value);
            }
            return MOVED;
        }

        private int doBegin(int ref) {
            if (ref == 0) {
                return NULL_USED;
            }
            int routine = routineOf(ref, 0);
            if (routine == NO_NUMBER) {
                return NO_METHOD;
            }
            if (begun >= THREADS) {
                return NO_THREAD;
            }
            beginStrand(routine, ref, 1);
            return GOES_ON;
        }

        private int doMonitor(int ref, int op, int owner) {
            if (ref == 0) {
                return NULL_USED;
            }
            int entries = memory.entriesOf(ref);
            if (op == ENTER) {
                // canGo() has seen that no other thread has entered it.
                if (entries >= MOST_ENTRIES) {
                    return WRONG_MONITOR;
                }
                memory.setMonitor(ref, owner, entries + 1);
                return GOES_ON;
            }
            if (memory.ownerOf(ref) != owner) {
                return WRONG_MONITOR;
            }
            memory.setMonitor(ref, entries > 1 ? owner : 0, entries - 1);
            return GOES_ON;
        }

        private int doStatic(Strand s, int op, int number) {
            if (!within(number, 0, STATICS - 1)) {
                return GOES_ON;
            }
            switch (op) {
                case GET_INT_STATIC: s.push(intStatics[number]); break;
                case SET_INT_STATIC: intStatics[number] = s.pop(); break;
                case GET_REF_STATIC: s.pushRef(refStatics[number]); break;
                default: refStatics[number] = s.pop(); break;
            }
            return GOES_ON;
        }

        /** Looks for a handler from the innermost method outwards; without one the thread ends. */
        private void raise(Strand s, int fault) {
            int ref = fault == THROWN ? thrown : 0;
            thrownKind = memory.kindOf(ref);
            for (int n = 0; n < DEPTH && s.depth > 0; n++) {
                int handler = handlerFor(s, fault);
                if (handler != BAD) {
                    s.catchAt(handler, ref);
                    return;
                }
                s.leave();
            }
            s.finish(Strand.FAILED, fault == THROWN ? thrownNumber() : -fault);
        }

        private int thrownNumber() {
            return thrownKind < image.kinds() ? 100 + image.sourceKind(thrownKind) : 110;
        }

        private int handlerFor(Strand s, int fault) {
            int head = image.headAt(s.routine);
            int codeAt = image.codeAt(s.routine);
            int offset = s.place - codeAt;
            int traps = image.at(head + METHOD_BYTES - 1);
            for (int t = 0; t < traps && t < TRAPS; t++) {
                int at = head + METHOD_BYTES + TRAP_BYTES * t;
                boolean covers = image.two(at) <= offset && offset < image.two(at + 2);
                if (covers && fits(image.at(at + 6), fault)) {
                    return codeAt + image.two(at + 4);
                }
            }
            return BAD;
        }

        private boolean fits(int what, int fault) {
            if (what < image.kinds()) {
                return fault == THROWN && image.isBelow(thrownKind, what);
            }
            int exception = 256 - what - 1;
            return exception == 0 || exception == fault;
        }

        int tellThread(int t, int what) {
            if (!isStrand(t)) {
                return BAD;
            }
            Strand s = strands[t];
            switch (what) {
                case 0:
                    if (s.state == Strand.ALIVE) {
                        return waits(s, t + 1) ? 1 : 0;
                    }
                    return s.state == Strand.RETURNED ? 2 : 3;
                case 1: return s.depth;
                case 2: return s.failure;
                default: return BAD;
            }
        }

        boolean isSound() {
            if (!booted) {
                return true;
            }
            if (!memory.findBeginnings() || !memory.rowLeadsWell(refStatics, refStaticMarks, STATICS)) {
                return false;
            }
            for (int t = 0; t < THREADS && isStrand(t); t++) {
                if (!memory.rowLeadsWell(strands[t].values, strands[t].marks, strands[t].slots())) {
                    return false;
                }
            }
            return memory.fieldsLeadWell();
        }
    }

    /** Whose turn it is, and how much of it is left. */
    private static final class Turns {
        int done;
        private final Engine engine;
        private int current;
        private int left;
        private int quantum;

        Turns(Engine engine) {
            this.engine = engine;
        }

        void start(int instructions) {
            quantum = instructions;
            left = instructions;
            current = 0;
            done = 0;
        }

        int advance(int instructions) {
            int did = 0;
            while (did < instructions && (goesOn() || beginNext())) {
                engine.step(current);
                left = engine.turnEnded ? 0 : left - 1;
                did++;
            }
            done += did;
            return did;
        }

        private boolean goesOn() {
            return left > 0 && engine.canGo(current);
        }

        /** The next thread that can go, from the one behind the last one on. */
        private boolean beginNext() {
            int t = current;
            for (int n = 0; n < engine.begun; n++) {
                t = t + 1 < engine.begun ? t + 1 : 0;
                if (engine.canGo(t)) {
                    current = t;
                    left = quantum;
                    return true;
                }
            }
            return false;
        }
    }
}
