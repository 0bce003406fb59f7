import java.util.Arrays;
import java.util.NoSuchElementException;

/** A profiler of allocations for a small stack machine; ../shared/DOC.md says what each call promises. */
public final class AllocationProfiler {
    private static final int PUSH = 0;
    private static final int LOAD = 1;
    private static final int STORE = 2;
    private static final int ADD = 3;
    private static final int SUB = 4;
    private static final int MUL = 5;
    private static final int DUP = 6;
    private static final int POP = 7;
    private static final int GOTO = 8;
    private static final int IFZERO = 9;
    private static final int IFNEG = 10;
    private static final int NEW = 11;
    private static final int ARRAY = 12;
    private static final int CALL = 13;
    private static final int RETURN = 14;
    private static final int THROW = 15;
    private static final int REPORT = 16;

    /** How many numbers each operation takes from the stack and puts there, by its number. */
    private static final int[] TAKES = {0, 0, 1, 2, 2, 2, 1, 1, 0, 1, 1, 0, 1, 1, 1, 1, 0};
    private static final int[] PUTS = {1, 1, 0, 1, 1, 1, 2, 0, 0, 0, 0, 1, 1, 1, 0, 0, 0};

    private static final int MOST_TYPES = 6;
    private static final int MOST_FIELDS = 3;
    private static final int MOST_METHODS = 6;
    private static final int MOST_DRAFTED = 24;
    private static final int MOST_WOVEN = 28;
    private static final int MOST_RANGES = 2;
    private static final int MOST_ON_STACK = 5;
    private static final int MOST_ACTIVE = 5;
    private static final int MOST_OBJECTS = 400;
    private static final int MOST_ENTRIES = 16;
    /** A woven method ends with no NEW or ARRAY, so its 28 instructions have room for 13 with reports. */
    private static final int MOST_SITES = 13 * MOST_METHODS;
    private static final int LOCALS = 4;
    private static final int THREADS = 3;
    private static final int HEADER = 12;
    private static final int ARRAY_HEADER = 16;
    private static final int GRAIN = 8;
    private static final int LARGEST_OBJECT = 100000;
    private static final int LEAST_INTERVAL = 50;
    private static final int LARGEST_INTERVAL = 100000;
    private static final int MOST_STEPS = 200;
    private static final int STEPS_PER_FADE = 16;
    private static final int STACK_BITS = 0xFFF;
    private static final int IDLE = 0;
    private static final int RUNNING = 1;
    private static final int RETURNED = 2;
    private static final int THROWN = 3;
    private static final int NO_OBJECT = -1;
    private static final int TOO_DEEP = -2;
    private static final int NONE = -1;

    private final Machine machine = new Machine();
    private final Types types = machine.types;
    private final Method[] methods = machine.methods;
    private final Heap heap = machine.heap;
    private final Ledger ledger = machine.ledger;
    private final Code draft = new Code(MOST_DRAFTED);
    private final Checker checker = new Checker();
    private int methodCount = 0;
    private int faultPlace = NONE;
    private boolean wasWoven = false;

    public AllocationProfiler() {
    }

    public int type(int parent, int longs, int ints, int chars, int bytes)
            throws IllegalArgumentException, IllegalStateException {
        if (parent != NONE && !types.has(parent)) {
            throw new IllegalArgumentException("no such parent");
        }
        if (!isFieldCount(longs) || !isFieldCount(ints) || !isFieldCount(chars) || !isFieldCount(bytes)) {
            throw new IllegalArgumentException("0 to 3 fields of a kind");
        }
        if (wasWoven || types.isFull()) {
            throw new IllegalStateException("no more types");
        }
        return types.add(parent, longs, ints, chars, bytes);
    }

    public int size(int type) throws IllegalArgumentException {
        if (!types.has(type)) {
            throw new IllegalArgumentException("no such type");
        }
        return types.sizeOf(type);
    }

    public int draft(int operation, int a) throws IllegalArgumentException, IllegalStateException {
        if (operation < PUSH || operation > THROW) {
            throw new IllegalArgumentException("no such operation");
        }
        if (draft.isFull()) {
            throw new IllegalStateException("the draft is full");
        }
        return draft.append(operation, a);
    }

    public int range(int begin, int end, int handler) throws IllegalStateException {
        if (draft.hasAllRanges()) {
            throw new IllegalStateException("the draft has its ranges");
        }
        return draft.appendRange(begin, end, handler);
    }

    public int define() throws IllegalStateException, IllegalArgumentException {
        faultPlace = NONE;
        if (wasWoven || methodCount >= MOST_METHODS) {
            draft.clear();
            throw new IllegalStateException("no more methods");
        }
        faultPlace = checker.faultOf(draft, types, methodCount);
        if (faultPlace != NONE) {
            draft.clear();
            throw new IllegalArgumentException("the draft is malformed");
        }
        methods[methodCount].become(draft);
        draft.clear();
        methodCount++;
        return methodCount - 1;
    }

    public int fault() {
        return faultPlace;
    }

    public void exclude(int method) throws IllegalArgumentException, IllegalStateException {
        needMethod(method);
        if (wasWoven) {
            throw new IllegalStateException("it was woven");
        }
        methods[method].excluded = true;
    }

    public int weave(int interval) throws IllegalArgumentException, IllegalStateException {
        if (interval < LEAST_INTERVAL || interval > LARGEST_INTERVAL) {
            throw new IllegalArgumentException("no such interval");
        }
        if (wasWoven || methodCount == 0) {
            throw new IllegalStateException("nothing to weave");
        }
        int sites = 0;
        for (int m = 0; m < methodCount; m++) {
            sites = methods[m].weaveFrom(sites);
        }
        ledger.open(sites, interval);
        wasWoven = true;
        return sites;
    }

    public int length(int method, boolean woven) throws IllegalArgumentException {
        needMethod(method);
        return woven ? methods[method].woven.instructions : methods[method].original.instructions;
    }

    public int code(int method, int i, int what) throws IllegalArgumentException, IndexOutOfBoundsException {
        needMethod(method);
        if (what < 0 || what > 4) {
            throw new IllegalArgumentException("no such what");
        }
        Code code = methods[method].woven;
        if (what < 2 ? !code.has(i) : !code.hasRange(i)) {
            throw new IndexOutOfBoundsException("no such i");
        }
        return code.part(i, what);
    }

    public int site(int method, int i) throws IllegalArgumentException, NoSuchElementException {
        needMethod(method);
        if (!methods[method].original.has(i)) {
            throw new IllegalArgumentException("no such instruction");
        }
        int site = methods[method].sites[i];
        if (site == NONE) {
            throw new NoSuchElementException("no site there");
        }
        return site;
    }

    public void start(int thread, int method, int x) throws IllegalArgumentException, IllegalStateException {
        needThread(thread);
        needMethod(method);
        if (!wasWoven || machine.strands[thread].isRunning()) {
            throw new IllegalStateException("it cannot start now");
        }
        machine.strands[thread].enter(method, x);
    }

    public int run(int steps) throws IllegalArgumentException {
        if (steps < 1 || steps > MOST_STEPS) {
            throw new IllegalArgumentException("1 to 200 steps");
        }
        int done = 0;
        while (done < steps && machine.step()) {
            done++;
        }
        return done;
    }

    public int state(int thread) throws IllegalArgumentException {
        needThread(thread);
        return machine.strands[thread].condition();
    }

    public int result(int thread) throws IllegalArgumentException, NoSuchElementException {
        needThread(thread);
        int condition = machine.strands[thread].condition();
        if (condition != RETURNED && condition != THROWN) {
            throw new NoSuchElementException("it has not ended");
        }
        return machine.strands[thread].outcome;
    }

    public int object(int n) throws IllegalArgumentException {
        if (n < 0 || n > heap.made) {
            throw new IllegalArgumentException("no such object");
        }
        return n == 0 ? heap.made : heap.sizeOf(n);
    }

    public long count(int site, int thread, int what) throws IllegalArgumentException, NoSuchElementException {
        needSite(site);
        if (thread != NONE) {
            needThread(thread);
        }
        if (what < 0 || what > 2) {
            throw new IllegalArgumentException("no such what");
        }
        if (what == 2 && thread != NONE) {
            throw new NoSuchElementException("samples are not told by threads");
        }
        return what == 0 ? ledger.objectsOf(site, thread)
                : what == 1 ? ledger.bytesOf(site, thread) : ledger.samples[site];
    }

    public int entry(int k, int what) throws IllegalArgumentException, IndexOutOfBoundsException {
        if (what < 0 || what > 2) {
            throw new IllegalArgumentException("no such what");
        }
        if (k < 0 || k >= ledger.entries) {
            throw new IndexOutOfBoundsException("no such entry");
        }
        return what == 0 ? ledger.entrySites[k] : what == 1 ? ledger.entryStacks[k] : ledger.entrySamples[k];
    }

    public float rate(int site) throws IllegalArgumentException {
        needSite(site);
        return ledger.rates[site];
    }

    public float share(int site) throws IllegalArgumentException {
        needSite(site);
        return ledger.shareOf(site);
    }

    public double estimate(int site) throws IllegalArgumentException {
        needSite(site);
        return ledger.estimateOf(site);
    }

    public long rounded(int site) throws IllegalArgumentException {
        needSite(site);
        return (long) (ledger.estimateOf(site) + 0.5);
    }

    private void needMethod(int method) {
        if (method < 0 || method >= methodCount) {
            throw new IllegalArgumentException("no such method");
        }
    }

    private void needSite(int site) {
        if (site < 0 || site >= ledger.sites) {
            throw new IllegalArgumentException("no such site");
        }
    }

    private static void needThread(int thread) {
        if (thread < 0 || thread >= THREADS) {
            throw new IllegalArgumentException("no such thread");
        }
    }

    private static boolean isFieldCount(int fields) {
        return fields >= 0 && fields <= MOST_FIELDS;
    }

    private static boolean isLocal(int local) {
        return local >= 0 && local < LOCALS;
    }

    private static boolean isWidth(int width) {
        return width == 1 || width == 2 || width == 4 || width == 8;
    }

    private static boolean branches(int operation) {
        return operation == GOTO || operation == IFZERO || operation == IFNEG;
    }

    private static boolean makesObject(int operation) {
        return operation == NEW || operation == ARRAY;
    }

    /** Whether no instruction follows behind this one, but for where a GOTO goes. */
    private static boolean closes(int operation) {
        return operation == GOTO || operation == RETURN || operation == THROW;
    }

    /** The widths are powers of two, so a mask finds their next multiple. */
    private static long nextMultiple(long place, int width) {
        return (place + width - 1) & -width;
    }

    /** The types with their layout. The end is kept, not the size: a child's fields fill its parent's gap. */
    private static final class Types {
        private final int[] ends = new int[MOST_TYPES];
        private int known = 0;

        boolean has(int type) {
            return type >= 0 && type < known;
        }

        boolean isFull() {
            return known >= MOST_TYPES;
        }

        int add(int parent, int longs, int ints, int chars, int bytes) {
            int end = has(parent) ? ends[parent] : HEADER;
            end = endBehind(end, longs, 8);
            end = endBehind(end, ints, 4);
            end = endBehind(end, chars, 2);
            end = endBehind(end, bytes, 1);
            if (!isFull()) {
                ends[known] = end;
                known++;
            }
            return known - 1;
        }

        int sizeOf(int type) {
            return has(type) ? (int) nextMultiple(ends[type], GRAIN) : 0;
        }

        private static int endBehind(int end, int fields, int width) {
            return fields == 0 ? end : (int) nextMultiple(end, width) + fields * width;
        }
    }

    /** Instructions with their ranges: the draft, a method as it was, or a woven one. */
    private static final class Code {
        private final int[] operations;
        private final int[] arguments;
        private final int[] begins = new int[MOST_RANGES];
        private final int[] ends = new int[MOST_RANGES];
        private final int[] handlers = new int[MOST_RANGES];
        private int instructions = 0;
        private int ranges = 0;

        Code(int room) {
            operations = new int[room];
            arguments = new int[room];
        }

        void clear() {
            instructions = 0;
            ranges = 0;
        }

        boolean has(int i) {
            return i >= 0 && i < instructions;
        }

        boolean isFull() {
            return instructions >= operations.length;
        }

        boolean hasRange(int r) {
            return r >= 0 && r < ranges;
        }

        boolean hasAllRanges() {
            return ranges >= MOST_RANGES;
        }

        int append(int operation, int argument) {
            if (!isFull()) {
                operations[instructions] = operation;
                arguments[instructions] = argument;
                instructions++;
            }
            return instructions - 1;
        }

        int appendRange(int begin, int end, int handler) {
            if (!hasAllRanges()) {
                begins[ranges] = begin;
                ends[ranges] = end;
                handlers[ranges] = handler;
                ranges++;
            }
            return ranges;
        }

        void copy(Code other) {
            clear();
            for (int i = 0; i < other.instructions; i++) {
                append(other.operations[i], other.arguments[i]);
            }
            for (int r = 0; r < other.ranges; r++) {
                appendRange(other.begins[r], other.ends[r], other.handlers[r]);
            }
        }

        int operationAt(int i) {
            return has(i) ? operations[i] : RETURN;
        }

        int argumentAt(int i) {
            return has(i) ? arguments[i] : 0;
        }

        boolean covers(int r, int i) {
            return r >= 0 && r < ranges && i >= begins[r] && i < ends[r];
        }

        /** The handler of the first range that has instruction i, or NONE. */
        int handlerFor(int i) {
            for (int r = 0; r < ranges; r++) {
                if (covers(r, i)) {
                    return handlers[r];
                }
            }
            return NONE;
        }

        /** What code() tells; the caller has looked whether there is such an i. */
        int part(int i, int what) {
            if (what < 2) {
                return what == 0 ? operationAt(i) : argumentAt(i);
            }
            if (!hasRange(i)) {
                return NONE;
            }
            return what == 2 ? begins[i] : what == 3 ? ends[i] : handlers[i];
        }
    }

    /** Looks for the place at which a draft is malformed. Its rows are kept and used again for each draft. */
    private static final class Checker {
        /** An instruction may be reached with one number too many, so that this can be seen. */
        private static final int DEPTHS = MOST_ON_STACK + 2;

        /** For each instruction, bit d is set when it is reached with d numbers on the stack. */
        private final int[] reached = new int[MOST_DRAFTED];
        /** Each pair of an instruction and a depth waits here once, as soon as it is reached. */
        private final int[] waiting = new int[MOST_DRAFTED * DEPTHS];
        private int waitingCount = 0;

        int faultOf(Code code, Types types, int ownNumber) {
            int place = wrongArgument(code, types, ownNumber);
            if (place == NONE) {
                place = openEnd(code);
            }
            if (place == NONE) {
                place = wrongRange(code);
            }
            if (place == NONE) {
                place = wrongDepth(code);
            }
            return place;
        }

        private static int wrongArgument(Code code, Types types, int ownNumber) {
            if (code.instructions == 0) {
                return 0;
            }
            for (int i = 0; i < code.instructions; i++) {
                if (!fits(code, i, types, ownNumber)) {
                    return i;
                }
            }
            return NONE;
        }

        private static boolean fits(Code code, int i, Types types, int ownNumber) {
            int operation = code.operationAt(i);
            int argument = code.argumentAt(i);
            if (branches(operation)) {
                return code.has(argument);
            }
            switch (operation) {
                case LOAD:
                case STORE:
                    return isLocal(argument);
                case NEW:
                    return types.has(argument);
                case ARRAY:
                    return isWidth(argument);
                case CALL:
                    return argument >= 0 && argument <= ownNumber;
                default:
                    return true;
            }
        }

        private static int openEnd(Code code) {
            int last = code.instructions - 1;
            return closes(code.operationAt(last)) ? NONE : last;
        }

        private static int wrongRange(Code code) {
            for (int r = 0; r < code.ranges; r++) {
                boolean inOrder = code.begins[r] >= 0 && code.begins[r] < code.ends[r];
                if (!inOrder || code.ends[r] > code.instructions || !code.has(code.handlers[r])) {
                    return MOST_DRAFTED + r;
                }
            }
            return NONE;
        }

        private int wrongDepth(Code code) {
            Arrays.fill(reached, 0);
            waitingCount = 0;
            reach(0, 0);
            for (int next = 0; next < waiting.length && next < waitingCount; next++) {
                follow(code, waiting[next] / DEPTHS, waiting[next] % DEPTHS);
            }
            for (int i = 0; i < code.instructions; i++) {
                if (isReachedWrongly(code.operationAt(i), reached[i])) {
                    return i;
                }
            }
            return NONE;
        }

        private void reach(int i, int depth) {
            if (i < 0 || i >= reached.length || waitingCount >= waiting.length) {
                return;
            }
            if ((reached[i] & (1 << depth)) == 0) {
                reached[i] |= 1 << depth;
                waiting[waitingCount] = i * DEPTHS + depth;
                waitingCount++;
            }
        }

        private void follow(Code code, int i, int depth) {
            int operation = code.operationAt(i);
            if (depth > MOST_ON_STACK || depth < TAKES[operation]) {
                return;
            }
            int after = depth - TAKES[operation] + PUTS[operation];
            if (!closes(operation)) {
                reach(i + 1, after);
            }
            if (branches(operation)) {
                reach(code.argumentAt(i), after);
            }
            // Every range counts here, not the first alone: the document reaches the handler of each.
            for (int r = 0; r < code.ranges; r++) {
                if (code.covers(r, i)) {
                    reach(code.handlers[r], 1);
                }
            }
        }

        private static boolean isReachedWrongly(int operation, int depths) {
            boolean tooFew = (depths & ((1 << TAKES[operation]) - 1)) != 0;
            boolean tooMany = (depths >> (MOST_ON_STACK + 1)) != 0;
            return tooFew || tooMany || Integer.bitCount(depths) > 1;
        }
    }

    /** A method as it was and as it runs; until weaving both are the same. */
    private static final class Method {
        private final Code original = new Code(MOST_DRAFTED);
        private final Code woven = new Code(MOST_WOVEN);
        private final int[] sites = new int[MOST_DRAFTED];
        /** Where each original instruction, and the end behind the last, stands in the woven code. */
        private final int[] places = new int[MOST_DRAFTED + 1];
        private boolean excluded = false;

        void become(Code draft) {
            original.copy(draft);
            woven.copy(draft);
            Arrays.fill(sites, NONE);
        }

        /** Weaves with sites from firstSite on: the number that the next site gets. */
        int weaveFrom(int firstSite) {
            findPlaces();
            if (excluded || placeOf(original.instructions) > MOST_WOVEN) {
                return firstSite;
            }
            woven.clear();
            int nextSite = firstSite;
            for (int i = 0; i < original.instructions; i++) {
                int operation = original.operations[i];
                int argument = original.arguments[i];
                woven.append(operation, branches(operation) ? placeOf(argument) : argument);
                if (makesObject(operation)) {
                    woven.append(REPORT, nextSite);
                    sites[i] = nextSite;
                    nextSite++;
                }
            }
            for (int r = 0; r < original.ranges; r++) {
                woven.appendRange(placeOf(original.begins[r]), placeOf(original.ends[r]),
                        placeOf(original.handlers[r]));
            }
            return nextSite;
        }

        private void findPlaces() {
            int place = 0;
            for (int i = 0; i < original.instructions; i++) {
                places[i] = place;
                place += makesObject(original.operations[i]) ? 2 : 1;
            }
            places[original.instructions] = place;
        }

        private int placeOf(int i) {
            return i >= 0 && i < places.length ? places[i] : 0;
        }
    }

    /** The sizes of the objects that all threads have made; object n stands at n - 1. */
    private static final class Heap {
        private final int[] sizes = new int[MOST_OBJECTS];
        private int made = 0;

        /** The number of a new object, or NO_OBJECT when it can't be made. */
        int make(long bytes) {
            if (made >= MOST_OBJECTS || bytes < 0 || bytes > LARGEST_OBJECT) {
                return NO_OBJECT;
            }
            sizes[made] = (int) bytes;
            made++;
            return made;
        }

        int sizeOf(int number) {
            return number >= 1 && number <= made ? sizes[number - 1] : 0;
        }
    }

    /** One active method of a thread. It stays at its CALL while what it called is active. */
    private static final class Frame {
        private final int[] locals = new int[LOCALS];
        private final int[] stack = new int[MOST_ON_STACK];
        private int method = 0;
        private int at = 0;
        private int depth = 0;

        void begin(int newMethod, int x) {
            method = newMethod;
            at = 0;
            depth = 0;
            Arrays.fill(locals, 0);
            locals[0] = x;
        }

        void push(int x) {
            if (depth < MOST_ON_STACK) {
                stack[depth] = x;
                depth++;
            }
        }

        int pop() {
            if (depth == 0) {
                return 0;
            }
            depth--;
            return stack[depth];
        }

        void catchAt(int handler, int exception) {
            depth = 0;
            push(exception);
            at = handler;
        }

        /** Does an operation that concerns the numbers of this frame alone. */
        void compute(int operation, int argument) {
            switch (operation) {
                case PUSH:
                    push(argument);
                    break;
                case LOAD:
                    push(isLocal(argument) ? locals[argument] : 0);
                    break;
                case STORE:
                    store(argument, pop());
                    break;
                case DUP:
                    duplicate();
                    break;
                case POP:
                    pop();
                    break;
                default:
                    combine(operation);
                    break;
            }
            at++;
        }

        void branch(int operation, int target) {
            boolean goes = operation == GOTO;
            if (operation == IFZERO) {
                goes = pop() == 0;
            }
            if (operation == IFNEG) {
                goes = pop() < 0;
            }
            at = goes ? target : at + 1;
        }

        private void store(int local, int x) {
            if (isLocal(local)) {
                locals[local] = x;
            }
        }

        private void duplicate() {
            int x = pop();
            push(x);
            push(x);
        }

        private void combine(int operation) {
            int y = pop();
            int x = pop();
            if (operation == ADD) {
                push(x + y);
            } else if (operation == SUB) {
                push(x - y);
            } else if (operation == MUL) {
                push(x * y);
            }
        }
    }

    /** A thread: its active methods, the outermost first, and how it has ended. */
    private static final class Strand {
        private final Frame[] frames = new Frame[MOST_ACTIVE];
        private final int number;
        private int active = 0;
        private int ending = IDLE;
        private int outcome = 0;

        Strand(int itsNumber) {
            number = itsNumber;
            for (int f = 0; f < MOST_ACTIVE; f++) {
                frames[f] = new Frame();
            }
        }

        boolean isRunning() {
            return active > 0;
        }

        boolean isDeep() {
            return active >= MOST_ACTIVE;
        }

        int condition() {
            return isRunning() ? RUNNING : ending;
        }

        void enter(int method, int x) {
            if (!isDeep()) {
                frames[active].begin(method, x);
                active++;
            }
        }

        void leave() {
            if (active > 0) {
                active--;
            }
        }

        Frame top() {
            return frames[active > 0 ? active - 1 : 0];
        }

        void end(int newEnding, int newOutcome) {
            ending = newEnding;
            outcome = newOutcome;
        }

        int stackNumber() {
            int stack = 0;
            for (int f = 0; f < active; f++) {
                stack = (stack * 8 + frames[f].method + 1) & STACK_BITS;
            }
            return stack;
        }
    }

    /** Runs the woven methods, a step at a time, by turns. */
    private static final class Machine {
        private final Types types = new Types();
        private final Method[] methods = new Method[MOST_METHODS];
        private final Heap heap = new Heap();
        private final Ledger ledger = new Ledger();
        private final Strand[] strands = new Strand[THREADS];
        private int turn = 0;
        private int stepsSinceFade = 0;

        Machine() {
            for (int m = 0; m < MOST_METHODS; m++) {
                methods[m] = new Method();
            }
            for (int t = 0; t < THREADS; t++) {
                strands[t] = new Strand(t);
            }
        }

        /** Whether there was a thread to do a step. */
        boolean step() {
            for (int tried = 0; tried < THREADS; tried++) {
                Strand strand = strands[turn];
                turn = (turn + 1) % THREADS;
                if (strand.isRunning()) {
                    perform(strand);
                    countStep();
                    return true;
                }
            }
            // Three tries have brought the turn back to where it was.
            return false;
        }

        private void countStep() {
            stepsSinceFade++;
            if (stepsSinceFade == STEPS_PER_FADE) {
                stepsSinceFade = 0;
                ledger.fade();
            }
        }

        private Code codeOf(Frame frame) {
            return methods[frame.method].woven;
        }

        private void perform(Strand strand) {
            Frame frame = strand.top();
            int operation = codeOf(frame).operationAt(frame.at);
            int argument = codeOf(frame).argumentAt(frame.at);
            switch (operation) {
                case GOTO:
                case IFZERO:
                case IFNEG:
                    frame.branch(operation, argument);
                    break;
                case NEW:
                    make(strand, types.sizeOf(argument));
                    break;
                case ARRAY:
                    make(strand, arraySize(frame.pop(), argument));
                    break;
                case CALL:
                    callMethod(strand, argument, frame.pop());
                    break;
                case RETURN:
                    giveBack(strand, frame.pop());
                    break;
                case THROW:
                    raise(strand, frame.pop());
                    break;
                default:
                    frame.compute(operation, argument);
                    break;
            }
        }

        /** A long, for cells times width may be beyond an int; NONE when there can be no such array. */
        private static long arraySize(int cells, int width) {
            return cells < 0 ? NONE : nextMultiple(ARRAY_HEADER + (long) cells * width, GRAIN);
        }

        private void make(Strand strand, long bytes) {
            int number = heap.make(bytes);
            if (number == NO_OBJECT) {
                raise(strand, NO_OBJECT);
                return;
            }
            Frame frame = strand.top();
            Code code = codeOf(frame);
            frame.push(number);
            frame.at++;
            if (code.operationAt(frame.at) == REPORT) {
                ledger.report(code.argumentAt(frame.at), strand.number, (int) bytes, strand.stackNumber());
                frame.at++;
            }
        }

        private void callMethod(Strand strand, int method, int x) {
            if (strand.isDeep()) {
                raise(strand, TOO_DEEP);
            } else {
                strand.enter(method, x);
            }
        }

        private void giveBack(Strand strand, int x) {
            strand.leave();
            if (strand.isRunning()) {
                strand.top().push(x);
                strand.top().at++;
            } else {
                strand.end(RETURNED, x);
            }
        }

        private void raise(Strand strand, int exception) {
            for (int level = strand.active; level > 0; level--) {
                Frame frame = strand.top();
                int handler = codeOf(frame).handlerFor(frame.at);
                if (handler != NONE) {
                    frame.catchAt(handler, exception);
                    return;
                }
                strand.leave();
            }
            strand.end(THROWN, exception);
        }
    }

    /** What was reported: counters of the sites, samples with their entries, and rates. */
    private static final class Ledger {
        private final int[][] objects = new int[THREADS][MOST_SITES];
        private final long[][] bytes = new long[THREADS][MOST_SITES];
        private final long[] freshBytes = new long[MOST_SITES];
        private final int[] samples = new int[MOST_SITES];
        private final float[] rates = new float[MOST_SITES];
        private final int[] countdowns = new int[THREADS];
        private final int[] entrySites = new int[MOST_ENTRIES];
        private final int[] entryStacks = new int[MOST_ENTRIES];
        private final int[] entrySamples = new int[MOST_ENTRIES];
        private int sites = 0;
        private int entries = 0;
        /** Never 0, for it divides. */
        private int interval = LEAST_INTERVAL;

        void open(int newSites, int newInterval) {
            sites = newSites;
            interval = newInterval;
            Arrays.fill(countdowns, newInterval);
        }

        void report(int site, int thread, int size, int stack) {
            if (site < 0 || site >= sites) {
                return;
            }
            objects[thread][site]++;
            bytes[thread][site] += size;
            freshBytes[site] += size;
            int drawn = drawSamples(thread, size);
            if (drawn > 0) {
                samples[site] += drawn;
                countInEntry(site, stack, drawn);
            }
        }

        void fade() {
            for (int s = 0; s < sites; s++) {
                rates[s] = rates[s] * 0.75f + (float) freshBytes[s] * 0.25f;
                freshBytes[s] = 0;
            }
        }

        long objectsOf(int site, int thread) {
            long sum = 0;
            for (int t = 0; t < THREADS; t++) {
                sum += thread == NONE || thread == t ? objects[t][site] : 0;
            }
            return sum;
        }

        long bytesOf(int site, int thread) {
            long sum = 0;
            for (int t = 0; t < THREADS; t++) {
                sum += thread == NONE || thread == t ? bytes[t][site] : 0;
            }
            return sum;
        }

        float shareOf(int site) {
            long all = bytesOfAll();
            return all == 0 ? 0f : (float) bytesOf(site, NONE) / (float) all;
        }

        double estimateOf(int site) {
            long all = samplesOfAll();
            return all == 0 ? 0.0 : (double) samples[site] * (double) bytesOfAll() / (double) all;
        }

        private long bytesOfAll() {
            long sum = 0;
            for (int s = 0; s < sites; s++) {
                sum += bytesOf(s, NONE);
            }
            return sum;
        }

        private long samplesOfAll() {
            long sum = 0;
            for (int s = 0; s < sites; s++) {
                sum += samples[s];
            }
            return sum;
        }

        /** How many samples are due: all at once, for they would have the same site and stack. */
        private int drawSamples(int thread, int size) {
            countdowns[thread] -= size;
            if (countdowns[thread] > 0) {
                return 0;
            }
            int drawn = -countdowns[thread] / interval + 1;
            countdowns[thread] += drawn * interval;
            return drawn;
        }

        private void countInEntry(int site, int stack, int drawn) {
            int k = entryOf(site, stack);
            if (k == MOST_ENTRIES) {
                return;
            }
            if (k == entries) {
                entrySites[k] = site;
                entryStacks[k] = stack;
                entries++;
            }
            entrySamples[k] += drawn;
        }

        /** The entry of a site and stack, or the number that a new one would get. */
        private int entryOf(int site, int stack) {
            for (int k = 0; k < entries; k++) {
                if (entrySites[k] == site && entryStacks[k] == stack) {
                    return k;
                }
            }
            return entries;
        }
    }
}
