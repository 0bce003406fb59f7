/** Boundary cases of promise 14 and 17: what the steps do, and the limits that they meet. */
public final class MachineEdgesTest extends Edges {
    public static void main(String[] args) {
        edge(14, "x + y, x - y, x * y: they wrap around", MachineEdgesTest::wrapAround);
        edge(14, "take y, then x below it", MachineEdgesTest::operands);
        edge(14, "a local, 0 .. 3", MachineEdgesTest::locals);
        edge(14, "go to a when x is 0", MachineEdgesTest::zero);
        edge(14, "go to a when x is below 0", MachineEdgesTest::belowZero);
        edge(14, "5 numbers on the stack", MachineEdgesTest::fullStack);
        edge(14, "each takes what it takes: what is below stays", MachineEdgesTest::whatIsBelow);
        edge(14, "a method begins with an empty stack", MachineEdgesTest::emptyStack);
        edge(14, "runs method a with x in local 0, the others 0", MachineEdgesTest::localsOfCalls);
        edge(14, "puts what it returns", MachineEdgesTest::returnedToCall);
        edge(14, "in a range: begin to before end", MachineEdgesTest::beginToBeforeEnd);
        edge(14, "the first range of the method that has it", MachineEdgesTest::firstRange);
        edge(14, "the stack becomes the exception alone", MachineEdgesTest::exceptionAlone);
        edge(14, "without one, the method ends, and it is thrown at the CALL", MachineEdgesTest::thrownAtCall);
        edge(14, "without one in any active method", MachineEdgesTest::thrownToTheEnd);
        edge(14, "an exception in a handler", MachineEdgesTest::thrownInHandler);
        edge(14, "A CALL when the thread has 5 methods active throws -2", MachineEdgesTest::fiveActive);
        edge(14, "-2 is thrown at that CALL", MachineEdgesTest::tooDeepIsCaught);
        edge(14, "the thread has 5 active, not all threads", MachineEdgesTest::activeByThread);
        edge(14, "methods that have ended are not active", MachineEdgesTest::endedIsNotActive);
        edge(14, "With n below 0 ARRAY makes none, and -1 is thrown", MachineEdgesTest::negativeCells);
        edge(14, "when there are 400 objects: by NEW", MachineEdgesTest::fullByNew);
        edge(14, "when there are 400 objects: by ARRAY", MachineEdgesTest::fullByArray);
        edge(14, "or the size would be above 100000", MachineEdgesTest::largestArray);
        edge(14, "above 100000: beyond what an int holds", MachineEdgesTest::beyondInt);
        edge(14, "-1 is thrown at the NEW or ARRAY", MachineEdgesTest::noObjectIsCaught);
        edge(17, "An object is put as its number: 1, 2, .. by all threads", MachineEdgesTest::numbers);
        edge(17, "16 + n * width, to the next multiple of 8", MachineEdgesTest::arraySizes);
        edge(17, "400 objects", MachineEdgesTest::lastObject);
        finish(14, 17);
    }

    /** What method 0 returns for x, alone. */
    private static int returned(int x, int... code) {
        AllocationProfiler p = withType();
        define(p, code);
        p.weave(50);
        return outcome(p, 0, x, 2);
    }

    /** What a method returns (state 2) or throws (state 3) for x. */
    private static int outcome(AllocationProfiler p, int method, int x, int state) {
        p.start(1, method, x);
        p.run(200);
        check.same("state of method " + method + " for " + x, p.state(1), state);
        return p.result(1);
    }

    private static int computed(int x, int operation, int y) {
        return returned(0, PUSH, x, PUSH, y, operation, 0, RETURN, 0);
    }

    private static void wrapAround() {
        check.same("most + 1", computed(MOST, ADD, 1), LEAST);
        check.same("least + -1", computed(LEAST, ADD, -1), MOST);
        check.same("least + least", computed(LEAST, ADD, LEAST), 0);
        check.same("least - 1", computed(LEAST, SUB, 1), MOST);
        check.same("most - -1", computed(MOST, SUB, -1), LEAST);
        check.same("0 - least", computed(0, SUB, LEAST), LEAST);
        check.same("least * -1", computed(LEAST, MUL, -1), LEAST);
        check.same("most * most", computed(MOST, MUL, MOST), 1);
        check.same("65536 * 65536", computed(65536, MUL, 65536), 0);
        check.same("46341 * 46341", computed(46341, MUL, 46341), 46341 * 46341);
    }

    private static void operands() {
        check.same("7 + 2", computed(7, ADD, 2), 9);
        check.same("7 - 2", computed(7, SUB, 2), 5);
        check.same("2 - 7", computed(2, SUB, 7), -5);
        check.same("7 * 2", computed(7, MUL, 2), 14);
        check.same("what is below stays", returned(0, PUSH, 100, PUSH, 7, PUSH, 2, SUB, 0, SUB, 0, RETURN, 0), 95);
    }

    private static void locals() {
        for (int local = 0; local <= 3; local++) {
            check.same("LOAD " + local, returned(8, LOAD, local, RETURN, 0), local == 0 ? 8 : 0);
            // Each local keeps its own number.
            int due = new int[] {9, 8, 7, 6}[local];
            check.same("STORE " + local, returned(0, PUSH, 9, STORE, 0, PUSH, 8, STORE, 1, PUSH, 7, STORE, 2,
                    PUSH, 6, STORE, 3, LOAD, local, RETURN, 0), due);
        }
    }

    private static int branch(int operation, int x) {
        return returned(x, LOAD, 0, operation, 4, PUSH, 1, RETURN, 0, PUSH, 2, RETURN, 0);
    }

    private static void zero() {
        check.same("0", branch(IFZERO, 0), 2);
        for (int x : new int[] {LEAST, -1, 1, MOST}) {
            check.same("IFZERO of " + x, branch(IFZERO, x), 1);
        }
    }

    private static void belowZero() {
        for (int x : new int[] {LEAST, -2, -1}) {
            check.same("IFNEG of " + x, branch(IFNEG, x), 2);
        }
        for (int x : new int[] {0, 1, MOST}) {
            check.same("IFNEG of " + x, branch(IFNEG, x), 1);
        }
    }

    private static void fullStack() {
        check.same("five numbers", returned(0, PUSH, 1, PUSH, 20, PUSH, 300, PUSH, 4000, PUSH, 50000,
                ADD, 0, ADD, 0, ADD, 0, ADD, 0, RETURN, 0), 54321);
        check.same("the top alone", returned(0, PUSH, 1, PUSH, 2, PUSH, 3, PUSH, 4, PUSH, 5, RETURN, 0), 5);
        check.same("DUP to five", returned(0, PUSH, 3, DUP, 0, DUP, 0, DUP, 0, DUP, 0, MUL, 0, MUL, 0, MUL, 0, MUL, 0,
                RETURN, 0), 243);
        // Each of the five active methods has room for five.
        AllocationProfiler p = fresh();
        define(p, PUSH, 1, DUP, 0, DUP, 0, DUP, 0, DUP, 0, ADD, 0, ADD, 0, ADD, 0, ADD, 0, RETURN, 0);
        for (int m = 1; m < 5; m++) {
            define(p, PUSH, 1, DUP, 0, DUP, 0, DUP, 0, DUP, 0, CALL, m - 1, ADD, 0, ADD, 0, ADD, 0, ADD, 0, RETURN, 0);
        }
        p.weave(50);
        check.same("five methods", outcome(p, 4, 0, 2), 21);
        check.same("once more", outcome(p, 4, 0, 2), 21);
    }

    /** With 100 and 10 below, which are subtracted then. */
    private static void whatIsBelow() {
        check.same("POP", returned(0, PUSH, 100, PUSH, 10, PUSH, 3, POP, 0, SUB, 0, RETURN, 0), 90);
        check.same("POP of five", returned(0, PUSH, 1, PUSH, 2, PUSH, 3, PUSH, 100, PUSH, 10, POP, 0, SUB, 0, ADD, 0,
                ADD, 0, RETURN, 0), 1 + 2 + 3 - 100);
        check.same("POP of one", returned(0, PUSH, 100, POP, 0, PUSH, 7, RETURN, 0), 7);
        check.same("DUP", returned(0, PUSH, 100, PUSH, 10, DUP, 0, SUB, 0, SUB, 0, RETURN, 0), 100);
        check.same("STORE", returned(0, PUSH, 100, PUSH, 10, PUSH, 3, STORE, 0, SUB, 0, RETURN, 0), 90);
        for (int x = -1; x <= 1; x++) {
            check.same("IFZERO", returned(x, PUSH, 100, PUSH, 10, LOAD, 0, IFZERO, 4, SUB, 0, RETURN, 0), 90);
            check.same("IFNEG", returned(x, PUSH, 100, PUSH, 10, LOAD, 0, IFNEG, 4, SUB, 0, RETURN, 0), 90);
        }
        check.same("GOTO", returned(0, PUSH, 100, PUSH, 10, GOTO, 3, SUB, 0, RETURN, 0), 90);
        check.same("NEW", returned(0, PUSH, 100, PUSH, 10, NEW, 0, SUB, 0, SUB, 0, RETURN, 0), 91);
        check.same("ARRAY", returned(0, PUSH, 100, PUSH, 10, PUSH, 3, ARRAY, 1, SUB, 0, SUB, 0, RETURN, 0), 91);
    }

    /** Each method leaves four numbers behind when it ends, and then has room for five again. */
    private static void emptyStack() {
        AllocationProfiler p = fresh();
        define(p, PUSH, 1, PUSH, 2, PUSH, 3, PUSH, 4, LOAD, 0, RETURN, 0);
        define(p, PUSH, 1, PUSH, 2, PUSH, 3, PUSH, 4, LOAD, 0, THROW, 0);
        draft(p, LOAD, 0, CALL, 0, CALL, 0, CALL, 1, RETURN, 0, CALL, 0, RETURN, 0);
        p.range(3, 4, 5);
        p.define();
        p.weave(50);
        for (int x = 50; x < 53; x++) {
            check.same("RETURN", outcome(p, 0, x, 2), x);
            check.same("THROW", outcome(p, 1, x, 3), x);
            check.same("CALLs", outcome(p, 2, x, 2), x);
        }
    }

    private static void localsOfCalls() {
        AllocationProfiler p = fresh();
        // 1000 times local 3, 100 times local 2, 10 times local 1, and local 0; then it spoils them.
        define(p, LOAD, 3, PUSH, 10, MUL, 0, LOAD, 2, ADD, 0, PUSH, 10, MUL, 0, LOAD, 1, ADD, 0, PUSH, 10, MUL, 0,
                LOAD, 0, ADD, 0, PUSH, 9, STORE, 1, PUSH, 9, STORE, 2, PUSH, 9, STORE, 3, RETURN, 0);
        define(p, PUSH, 5, STORE, 1, PUSH, 6, CALL, 0, POP, 0, PUSH, 7, CALL, 0, LOAD, 1, PUSH, 10000, MUL, 0, ADD, 0,
                RETURN, 0);
        p.weave(50);
        check.same("7, and 5 stays in the caller's local", outcome(p, 1, 3, 2), 50007);
        check.same("behind it", outcome(p, 0, 4, 2), 4);
    }

    private static void returnedToCall() {
        AllocationProfiler p = fresh();
        define(p, PUSH, 1, PUSH, 2, LOAD, 0, RETURN, 0);
        define(p, PUSH, 100, LOAD, 0, CALL, 0, SUB, 0, RETURN, 0);
        p.weave(50);
        check.same("100 - x", outcome(p, 1, 30, 2), 70);
        check.same("the least", outcome(p, 1, LEAST, 2), 100 - LEAST);
    }

    /** Two methods that throw x, one at instruction 1, one at 3, with a range from 1 to 3. */
    private static void beginToBeforeEnd() {
        AllocationProfiler p = fresh();
        draft(p, LOAD, 0, THROW, 0, GOTO, 2, GOTO, 2, RETURN, 0);
        p.range(1, 3, 4);
        p.define();
        draft(p, LOAD, 0, GOTO, 2, GOTO, 3, THROW, 0, RETURN, 0);
        p.range(1, 3, 4);
        p.define();
        draft(p, LOAD, 0, GOTO, 2, THROW, 0, GOTO, 3, RETURN, 0);
        p.range(1, 3, 4);
        p.define();
        draft(p, LOAD, 0, THROW, 0, GOTO, 2, GOTO, 2, RETURN, 0);
        p.range(2, 5, 4);
        p.define();
        p.weave(50);
        check.same("at the begin", outcome(p, 0, 70, 2), 70);
        check.same("at the end", outcome(p, 1, 71, 3), 71);
        check.same("before the end", outcome(p, 2, 72, 2), 72);
        check.same("before the begin", outcome(p, 3, 73, 3), 73);
    }

    private static void firstRange() {
        AllocationProfiler p = fresh();
        int[][] ranges = {{0, 2, 2}, {0, 2, 5}, {0, 1, 2}, {1, 2, 5}, {1, 2, 5}, {0, 2, 2}};
        for (int m = 0; m < 3; m++) {
            draft(p, LOAD, 0, THROW, 0, PUSH, 1, ADD, 0, RETURN, 0, PUSH, 2, ADD, 0, RETURN, 0);
            p.range(ranges[2 * m][0], ranges[2 * m][1], ranges[2 * m][2]);
            p.range(ranges[2 * m + 1][0], ranges[2 * m + 1][1], ranges[2 * m + 1][2]);
            p.define();
        }
        p.weave(50);
        check.same("both have it", outcome(p, 0, 40, 2), 41);
        check.same("the second alone has it", outcome(p, 1, 40, 2), 42);
        check.same("both have it, the other first", outcome(p, 2, 40, 2), 42);
    }

    private static void exceptionAlone() {
        AllocationProfiler p = fresh();
        // Five numbers when it is thrown; then there is room for four beside it.
        draft(p, PUSH, 1, DUP, 0, DUP, 0, DUP, 0, LOAD, 0, THROW, 0, PUSH, 20, PUSH, 30, PUSH, 40, PUSH, 50,
                ADD, 0, ADD, 0, ADD, 0, ADD, 0, RETURN, 0);
        p.range(5, 6, 6);
        p.define();
        // At a CALL with five numbers.
        define(p, LOAD, 0, THROW, 0);
        draft(p, PUSH, 1, DUP, 0, DUP, 0, DUP, 0, LOAD, 0, CALL, 1, RETURN, 0, PUSH, 20, PUSH, 30, PUSH, 40, PUSH, 50,
                ADD, 0, ADD, 0, ADD, 0, ADD, 0, RETURN, 0);
        p.range(5, 6, 7);
        p.define();
        p.weave(50);
        for (int time = 0; time < 2; time++) {
            check.same("at THROW", outcome(p, 0, 1000, 2), 1140);
            check.same("at CALL", outcome(p, 2, 1000, 2), 1140);
        }
    }

    private static void thrownAtCall() {
        AllocationProfiler p = fresh();
        // Method 0 has a range, but the THROW is not in it.
        draft(p, LOAD, 0, THROW, 0, RETURN, 0);
        p.range(0, 1, 2);
        p.define();
        // The range has the CALL, or what is before it, or what is behind it.
        for (int at = 0; at < 3; at++) {
            draft(p, LOAD, 0, CALL, 0, RETURN, 0, PUSH, 5, ADD, 0, RETURN, 0);
            p.range(at, at + 1, 3);
            p.define();
        }
        define(p, LOAD, 0, CALL, 1, RETURN, 0);
        p.weave(50);
        check.same("no range", outcome(p, 0, 60, 3), 60);
        check.same("a range before the CALL", outcome(p, 1, 60, 3), 60);
        check.same("a range with the CALL", outcome(p, 2, 60, 2), 65);
        check.same("a range behind the CALL", outcome(p, 3, 60, 3), 60);
        check.same("through two CALLs", outcome(p, 4, 60, 3), 60);
    }

    /** Five active methods, none with a range, and then with one in the outermost. */
    private static void thrownToTheEnd() {
        AllocationProfiler p = fresh();
        define(p, LOAD, 0, THROW, 0);
        for (int m = 1; m < 5; m++) {
            define(p, LOAD, 0, CALL, m - 1, RETURN, 0);
        }
        draft(p, LOAD, 0, CALL, 3, RETURN, 0, PUSH, 1, ADD, 0, RETURN, 0);
        p.range(0, 2, 3);
        p.define();
        p.weave(50);
        p.start(0, 4, 8);
        check.same("steps", p.run(200), 10);
        check.same("state", p.state(0), 3);
        check.same("result", p.result(0), 8);
        p.start(0, 5, 8);
        check.same("steps", p.run(200), 13);
        check.same("state", p.state(0), 2);
        check.same("result", p.result(0), 9);
    }

    private static void thrownInHandler() {
        AllocationProfiler p = fresh();
        // The handler is not in the range: what it throws goes on.
        draft(p, LOAD, 0, THROW, 0, PUSH, 1, ADD, 0, THROW, 0);
        p.range(0, 2, 2);
        p.define();
        // The handler is in the range: it comes again, until x is 0.
        draft(p, LOAD, 0, THROW, 0, DUP, 0, IFZERO, 7, PUSH, 1, SUB, 0, THROW, 0, PUSH, 77, RETURN, 0);
        p.range(0, 7, 2);
        check.same("fault: 7 is reached with 1", faultOf(p), -1);
        p.weave(50);
        check.same("behind a range", outcome(p, 0, 8, 3), 9);
        check.same("in its own range", outcome(p, 1, 5, 2), 77);
    }

    /** Method 0 calls itself x times, and gives back how often. */
    private static AllocationProfiler callsItself() {
        AllocationProfiler p = fresh();
        define(p, LOAD, 0, IFZERO, 8, LOAD, 0, PUSH, 1, SUB, 0, CALL, 0, PUSH, 1, GOTO, 10, PUSH, 0, RETURN, 0,
                ADD, 0, RETURN, 0);
        p.weave(50);
        return p;
    }

    private static void fiveActive() {
        AllocationProfiler p = callsItself();
        for (int x = 0; x <= 4; x++) {
            check.same((x + 1) + " active", outcome(p, 0, x, 2), x);
        }
        check.same("a sixth", outcome(p, 0, 5, 3), -2);
        check.same("many more", outcome(p, 0, MOST, 3), -2);
        check.same("five again", outcome(p, 0, 4, 2), 4);
    }

    private static void tooDeepIsCaught() {
        AllocationProfiler p = fresh();
        // In the fifth the CALL is caught; it gives back 100 - 2, and each above it one more.
        draft(p, LOAD, 0, PUSH, 1, ADD, 0, CALL, 0, PUSH, 1, ADD, 0, RETURN, 0, PUSH, 100, ADD, 0, RETURN, 0);
        p.range(3, 4, 7);
        p.define();
        p.weave(50);
        p.start(0, 0, 0);
        check.same("steps", p.run(200), 5 * 4 + 3 + 4 * 3);
        check.same("state", p.state(0), 2);
        check.same("result", p.result(0), 102);
        // Caught in the outermost alone: the others have ended.
        AllocationProfiler q = fresh();
        define(q, LOAD, 0, CALL, 0, RETURN, 0);
        draft(q, LOAD, 0, CALL, 0, RETURN, 0, PUSH, 100, ADD, 0, RETURN, 0);
        q.range(1, 2, 3);
        q.define();
        q.weave(50);
        check.same("in the outermost", outcome(q, 1, 0, 2), 98);
        check.same("nowhere", outcome(q, 0, 0, 3), -2);
    }

    private static void activeByThread() {
        AllocationProfiler p = callsItself();
        for (int t = 0; t < 3; t++) {
            p.start(t, 0, 4);
        }
        p.run(200);
        for (int t = 0; t < 3; t++) {
            check.same("state", p.state(t), 2);
            check.same("result", p.result(t), 4);
        }
        check.same("its end is its last step", p.run(200), 0);
    }

    /** Six CALLs behind one another, in the fourth active method, and again when one has thrown. */
    private static void endedIsNotActive() {
        AllocationProfiler p = fresh();
        define(p, LOAD, 0, PUSH, 1, ADD, 0, RETURN, 0);
        define(p, LOAD, 0, CALL, 0, CALL, 0, CALL, 0, CALL, 0, CALL, 0, CALL, 0, RETURN, 0);
        define(p, LOAD, 0, CALL, 1, RETURN, 0);
        define(p, LOAD, 0, CALL, 2, RETURN, 0);
        define(p, LOAD, 0, THROW, 0);
        draft(p, LOAD, 0, CALL, 4, RETURN, 0, CALL, 3, RETURN, 0);
        p.range(1, 2, 3);
        p.define();
        p.weave(50);
        check.same("four and one", outcome(p, 3, 10, 2), 16);
        check.same("behind an exception", outcome(p, 5, 20, 2), 26);
    }

    /** Methods 0 .. 3 make an array of x cells, of width 1, 2, 4, 8. */
    private static AllocationProfiler arrays() {
        AllocationProfiler p = fresh();
        for (int width : new int[] {1, 2, 4, 8}) {
            define(p, LOAD, 0, ARRAY, width, RETURN, 0);
        }
        p.weave(100000);
        return p;
    }

    private static void thrown(AllocationProfiler p, int method, int cells) {
        int before = p.object(0);
        check.same("thrown for " + cells, outcome(p, method, cells, 3), -1);
        check.same("no object", p.object(0), before);
        check.same("not reported", p.count(method, -1, 0), before);
    }

    private static void sizeIs(AllocationProfiler p, int method, int cells, int due) {
        int number = outcome(p, method, cells, 2);
        check.same("size of " + cells + " cells by method " + method, p.object(number), due);
    }

    private static void negativeCells() {
        for (int method = 0; method < 4; method++) {
            AllocationProfiler p = arrays();
            for (int cells : new int[] {-1, -2, -8, -16, -17, LEAST, LEAST + 1}) {
                thrown(p, method, cells);
            }
            sizeIs(p, method, 0, 16);
        }
    }

    private static void largestArray() {
        int[] most = {99984, 49992, 24996, 12498};
        for (int method = 0; method < 4; method++) {
            AllocationProfiler p = arrays();
            thrown(p, method, most[method] + 1);
            sizeIs(p, method, most[method], 100000);
            // 99977 bytes would be 99993 with what is in front, and 100000 as a size.
            sizeIs(p, method, most[method] - (7 >> method), 100000);
            thrown(p, method, 100000);
        }
        AllocationProfiler p = arrays();
        sizeIs(p, 0, 99976, 99992);
        sizeIs(p, 0, 99977, 100000);
    }

    private static void beyondInt() {
        for (int method = 0; method < 4; method++) {
            AllocationProfiler p = arrays();
            for (int cells : new int[] {1 << 28, (1 << 28) + 1, 1 << 29, (1 << 29) + 1, 1 << 30, (1 << 30) + 1,
                MOST - 16, MOST}) {
                thrown(p, method, cells);
            }
        }
    }

    /** 400 objects by thread 0; then it is at its NEW. Method 1 makes an object with a range, method 2 an array. */
    private static AllocationProfiler full() {
        AllocationProfiler p = withType();
        define(p, NEW, 0, POP, 0, GOTO, 0);
        draft(p, NEW, 0, RETURN, 0, PUSH, 500, ADD, 0, RETURN, 0);
        p.range(0, 1, 2);
        p.define();
        draft(p, PUSH, 0, ARRAY, 1, RETURN, 0, PUSH, 500, ADD, 0, RETURN, 0);
        p.range(1, 2, 3);
        p.define();
        define(p, PUSH, 0, ARRAY, 1, RETURN, 0);
        p.weave(100000);
        p.start(0, 0, 0);
        for (int k = 0; k < 6; k++) {
            p.run(200);
        }
        return p;
    }

    private static void fullByNew() {
        AllocationProfiler p = full();
        check.same("400", p.object(0), 400);
        check.same("still running", p.state(0), 1);
        check.same("one step more", p.run(200), 1);
        check.same("thrown", p.state(0), 3);
        check.same("-1", p.result(0), -1);
        check.same("400", p.object(0), 400);
        check.same("not reported", p.count(0, -1, 0), 400);
        check.same("again", outcome(p, 0, 0, 3), -1);
    }

    private static void fullByArray() {
        AllocationProfiler p = full();
        check.same("400", p.object(0), 400);
        check.same("-1", outcome(p, 3, 0, 3), -1);
        check.same("400", p.object(0), 400);
        check.same("not reported", p.count(3, -1, 0), 0);
        // The 400th may be an array.
        AllocationProfiler q = withType();
        define(q, LOAD, 0, ARRAY, 1, POP, 0, GOTO, 0);
        q.weave(50);
        q.start(0, 0, 8);
        for (int k = 0; k < 8; k++) {
            q.run(200);
        }
        check.same("400 arrays", q.object(0), 400);
        check.same("the last", q.object(400), 24);
        check.same("steps", q.run(200), 2);
        check.same("thrown", q.result(0), -1);
        check.same("400 arrays", q.object(0), 400);
    }

    private static void noObjectIsCaught() {
        AllocationProfiler p = full();
        check.same("at NEW", outcome(p, 1, 0, 2), 499);
        check.same("at ARRAY", outcome(p, 2, 0, 2), 499);
        check.same("not reported", p.count(1, -1, 0) + p.count(2, -1, 0), 0);
        AllocationProfiler q = fresh();
        draft(q, LOAD, 0, ARRAY, 8, RETURN, 0, PUSH, 500, ADD, 0, RETURN, 0);
        q.range(1, 2, 3);
        q.define();
        q.weave(50);
        check.same("below 0", outcome(q, 0, -1, 2), 499);
        check.same("too large", outcome(q, 0, 12499, 2), 499);
        check.same("neither", outcome(q, 0, 12498, 2), 1);
    }

    private static void numbers() {
        AllocationProfiler p = withType();
        define(p, NEW, 0, RETURN, 0);
        define(p, LOAD, 0, ARRAY, 1, RETURN, 0);
        p.exclude(0);
        p.weave(50);
        for (int n = 1; n <= 12; n++) {
            p.start(n % 3, n % 2, 8);
            p.run(200);
            check.same("the number of object " + n, p.result(n % 3), n);
            if (n % 4 == 0) {
                check.same("one that is not made has none", outcome(p, 1, -1, 3), -1);
            }
        }
    }

    private static void arraySizes() {
        AllocationProfiler p = arrays();
        for (int method = 0; method < 4; method++) {
            int perGrain = 8 >> method;
            sizeIs(p, method, 0, 16);
            sizeIs(p, method, 1, 24);
            sizeIs(p, method, perGrain, 24);
            sizeIs(p, method, perGrain + 1, 32);
            sizeIs(p, method, 2 * perGrain, 32);
            sizeIs(p, method, 1000, 16 + (1000 << method));
        }
    }

    private static void lastObject() {
        AllocationProfiler p = full();
        check.same("how many", p.object(0), 400);
        check.same("the 400th", p.object(400), 16);
        check.same("the first", p.object(1), 16);
        refused("object", ARGUMENT, p::object, -1, 401, 402, MOST);
        AllocationProfiler q = withType();
        define(q, NEW, 0, POP, 0, GOTO, 0);
        q.weave(50);
        q.start(0, 0, 0);
        for (int k = 0; k < 6; k++) {
            q.run(k < 5 ? 200 : 197);
        }
        check.same("how many", q.object(0), 399);
        check.fails("the 400th is not there yet", ARGUMENT, () -> q.object(400));
        q.run(1);
        check.same("now it is", q.object(400), 16);
    }
}
