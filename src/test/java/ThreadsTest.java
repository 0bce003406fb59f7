/** Promises 13 to 17: start, run, state, result, object. */
public final class ThreadsTest {
    private static final Check check = new Check();

    public static void main(String[] args) {
        starting();
        arithmetic();
        branching();
        locals();
        calls();
        exceptions();
        emptiedStacks();
        arrays();
        limitOfObjects();
        turns();
        running();
        states();
        objects();
        check.finish();
    }

    /** What a method returns for x; it is the only one and runs alone. */
    private static int returned(int x, int... code) {
        AllocationProfiler p = new AllocationProfiler();
        p.type(-1, 0, 0, 0, 0);
        Check.define(p, code);
        p.weave(100);
        p.start(1, 0, x);
        p.run(200);
        check.same("it returned", p.state(1), 2);
        return p.result(1);
    }

    private static void starting() {
        AllocationProfiler x = new AllocationProfiler();
        check.fails("no method", Check.ARGUMENT, () -> x.start(0, 0, 0));
        Check.define(x, Check.PUSH, 0, Check.RETURN, 0);
        check.fails("not woven", Check.STATE, () -> x.start(0, 0, 0));
        check.fails("not woven, no thread", Check.ARGUMENT, () -> x.start(3, 0, 0));
        x.weave(50);
        for (int n : new int[] {-1, 3, Integer.MAX_VALUE, Integer.MIN_VALUE}) {
            check.fails("thread " + n, Check.ARGUMENT, () -> x.start(n, 0, 0));
            check.fails("method " + n, Check.ARGUMENT, () -> x.start(0, n, 0));
        }
        x.start(0, 0, 0);
        check.fails("running", Check.STATE, () -> x.start(0, 0, 0));
        check.fails("running, no method", Check.ARGUMENT, () -> x.start(0, 1, 0));
        x.run(2);
        x.start(0, 0, 0);
        check.same("again", x.state(0), 1);
    }

    private static void arithmetic() {
        int[] operations = {Check.ADD, Check.SUB, Check.MUL};
        int[] due = {9, 5, 14};
        for (int k = 0; k < 3; k++) {
            check.same("7 and 2", returned(0, Check.PUSH, 7, Check.PUSH, 2, operations[k], 0, Check.RETURN, 0), due[k]);
        }
        int max = Integer.MAX_VALUE;
        check.same("wraps", returned(0, Check.PUSH, max, Check.PUSH, 1, Check.ADD, 0, Check.RETURN, 0), max + 1);
        check.same("wraps", returned(0, Check.PUSH, max, Check.DUP, 0, Check.MUL, 0, Check.RETURN, 0), 1);
        check.same("POP", returned(0, Check.PUSH, 7, Check.PUSH, 2, Check.POP, 0, Check.RETURN, 0), 7);
        check.same("the top is returned", returned(0, Check.PUSH, 7, Check.PUSH, 2, Check.RETURN, 0), 2);
    }

    private static void branching() {
        int[] sign = {Check.LOAD, 0, Check.IFZERO, 6, Check.LOAD, 0, Check.IFNEG, 8, Check.PUSH, 1, Check.RETURN, 0,
            Check.PUSH, 0, Check.RETURN, 0, Check.PUSH, -1, Check.RETURN, 0};
        check.same("sign", returned(5, sign), 1);
        check.same("sign", returned(Integer.MAX_VALUE, sign), 1);
        check.same("sign", returned(0, sign), 0);
        check.same("sign", returned(-1, sign), -1);
        check.same("sign", returned(Integer.MIN_VALUE, sign), -1);
        int[] below = {Check.LOAD, 0, Check.IFNEG, 4, Check.PUSH, 1, Check.RETURN, 0, Check.PUSH, 2, Check.RETURN, 0};
        check.same("IFNEG of 0", returned(0, below), 1);
        check.same("IFNEG of -1", returned(-1, below), 2);
        int[] sum = {Check.LOAD, 0, Check.IFZERO, 11, Check.LOAD, 1, Check.LOAD, 0, Check.ADD, 0, Check.STORE, 1,
            Check.LOAD, 0, Check.PUSH, 1, Check.SUB, 0, Check.STORE, 0, Check.GOTO, 0, Check.LOAD, 1, Check.RETURN, 0};
        check.same("1 + .. + 10", returned(10, sum), 55);
    }

    private static void locals() {
        for (int local = 0; local < 4; local++) {
            check.same("local", returned(8, Check.LOAD, local, Check.RETURN, 0), local == 0 ? 8 : 0);
            check.same("local", returned(8, Check.PUSH, 3, Check.STORE, local, Check.LOAD, local, Check.RETURN, 0), 3);
        }
        // What an earlier call has left in its locals is gone.
        AllocationProfiler x = new AllocationProfiler();
        Check.define(x, Check.LOAD, 3, Check.PUSH, 9, Check.STORE, 3, Check.RETURN, 0);
        Check.define(x, Check.PUSH, 1, Check.CALL, 0, Check.PUSH, 1, Check.CALL, 0, Check.ADD, 0, Check.RETURN, 0);
        x.weave(50);
        x.start(0, 1, 0);
        x.run(200);
        check.same("locals are 0 at first", x.result(0), 0);
        x.start(0, 0, 0);
        x.run(200);
        check.same("at a start, too", x.result(0), 0);
    }

    private static void calls() {
        // 4 * 3 * 2 * 1, with 5 methods active.
        AllocationProfiler x = new AllocationProfiler();
        Check.draft(x, Check.LOAD, 0, Check.IFZERO, 9, Check.LOAD, 0, Check.DUP, 0, Check.PUSH, 1, Check.SUB, 0,
                Check.CALL, 0, Check.MUL, 0, Check.RETURN, 0, Check.PUSH, 1, Check.RETURN, 0);
        x.define();
        x.weave(50);
        x.start(0, 0, 4);
        x.run(200);
        check.same("state", x.state(0), 2);
        check.same("4!", x.result(0), 24);
        x.start(0, 0, 5);
        check.same("steps", x.run(200), 5 * 7);
        check.same("state", x.state(0), 3);
        check.same("a sixth", x.result(0), -2);
        x.start(0, 0, 3);
        x.run(200);
        check.same("it runs again", x.result(0), 6);
    }

    private static void exceptions() {
        // The method at hand is asked first, then the CALLs, each with its first range.
        AllocationProfiler x = new AllocationProfiler();
        Check.define(x, Check.LOAD, 0, Check.THROW, 0);
        Check.draft(x, Check.PUSH, 100, Check.LOAD, 0, Check.CALL, 0, Check.RETURN, 0,
                Check.PUSH, 1, Check.ADD, 0, Check.RETURN, 0, Check.PUSH, 2, Check.ADD, 0, Check.RETURN, 0);
        x.range(2, 3, 4);
        x.range(0, 4, 7);
        x.define();
        Check.draft(x, Check.LOAD, 0, Check.CALL, 0, Check.RETURN, 0, Check.RETURN, 0);
        x.range(0, 1, 3);
        x.range(2, 3, 3);
        x.define();
        Check.draft(x, Check.PUSH, 5, Check.LOAD, 0, Check.THROW, 0, Check.PUSH, 10, Check.MUL, 0, Check.RETURN, 0);
        x.range(0, 3, 3);
        x.define();
        // Only the second range has the CALL.
        Check.draft(x, Check.LOAD, 0, Check.CALL, 0, Check.RETURN, 0, Check.DUP, 0, Check.ADD, 0, Check.RETURN, 0);
        x.range(0, 1, 2);
        x.range(1, 2, 3);
        x.define();
        x.weave(50);
        outcome(x, 0, 7, 3, 7, 2);
        outcome(x, 1, 30, 2, 31, 8);
        outcome(x, 2, 30, 3, 30, 4);
        outcome(x, 3, 4, 2, 40, 6);
        outcome(x, 4, 21, 2, 42, 7);
    }

    /** Five numbers fit again at the begin of a method, and four beside an exception. */
    private static void emptiedStacks() {
        AllocationProfiler x = new AllocationProfiler();
        Check.define(x, Check.PUSH, 1, Check.PUSH, 2, Check.PUSH, 3, Check.PUSH, 4, Check.PUSH, 5, Check.RETURN, 0);
        Check.draft(x, Check.PUSH, 1, Check.DUP, 0, Check.DUP, 0, Check.DUP, 0, Check.PUSH, 1000, Check.THROW, 0,
                Check.PUSH, 10, Check.PUSH, 20, Check.PUSH, 30, Check.PUSH, 40, Check.ADD, 0, Check.ADD, 0,
                Check.ADD, 0, Check.ADD, 0, Check.RETURN, 0);
        x.range(5, 6, 6);
        x.define();
        x.weave(50);
        for (int time = 0; time < 2; time++) {
            outcome(x, 0, 0, 2, 5, 6);
            outcome(x, 1, 0, 2, 1100, 15);
        }
    }

    private static void outcome(AllocationProfiler p, int method, int x, int state, int result, int steps) {
        p.start(2, method, x);
        check.same("steps of " + method, p.run(200), steps);
        check.same("state of " + method, p.state(2), state);
        check.same("result of " + method, p.result(2), result);
    }

    private static void arrays() {
        AllocationProfiler x = new AllocationProfiler();
        int[] widths = {1, 2, 4, 8};
        for (int width : widths) {
            Check.define(x, Check.LOAD, 0, Check.ARRAY, width, Check.RETURN, 0);
        }
        x.weave(50);
        arraySize(x, 0, 0, 16);
        arraySize(x, 0, 1, 24);
        arraySize(x, 0, 8, 24);
        arraySize(x, 0, 9, 32);
        arraySize(x, 1, 4, 24);
        arraySize(x, 1, 5, 32);
        arraySize(x, 2, 3, 32);
        arraySize(x, 3, 3, 40);
        arraySize(x, 0, 99984, 100000);
        arraySize(x, 0, 99985, -1);
        arraySize(x, 1, 49992, 100000);
        arraySize(x, 1, 49993, -1);
        arraySize(x, 2, 24996, 100000);
        arraySize(x, 2, 24997, -1);
        arraySize(x, 3, 12498, 100000);
        arraySize(x, 3, 12499, -1);
        for (int n : new int[] {-1, Integer.MIN_VALUE, Integer.MAX_VALUE, 1 << 29, 1 << 30, (1 << 29) + 1}) {
            for (int method = 0; method < 4; method++) {
                arraySize(x, method, n, -1);
            }
        }
    }

    /** The size of the array, or -1 when it is thrown. */
    private static void arraySize(AllocationProfiler x, int method, int n, int due) {
        int before = x.object(0);
        x.start(0, method, n);
        check.same("steps", x.run(200), due == -1 ? 2 : 3);
        check.same("state", x.state(0), due == -1 ? 3 : 2);
        check.same("result", x.result(0), due == -1 ? -1 : before + 1);
        check.same("objects", x.object(0), due == -1 ? before : before + 1);
        if (due != -1) {
            check.same("size of " + n, x.object(before + 1), due);
        }
    }

    private static void limitOfObjects() {
        AllocationProfiler x = new AllocationProfiler();
        x.type(-1, 0, 0, 0, 0);
        Check.define(x, Check.NEW, 0, Check.POP, 0, Check.GOTO, 0);
        Check.define(x, Check.PUSH, 0, Check.ARRAY, 1, Check.RETURN, 0);
        x.weave(50);
        x.start(0, 0, 0);
        for (int k = 0; k < 6; k++) {
            x.run(200);
        }
        check.same("400 objects", x.object(0), 400);
        check.same("still running", x.state(0), 1);
        check.same("the last step", x.run(200), 1);
        check.same("thrown", x.state(0), 3);
        check.same("-1", x.result(0), -1);
        x.start(1, 1, 0);
        check.same("ARRAY throws, too", x.run(200), 2);
        check.same("-1", x.result(1), -1);
        check.same("no report", x.count(1, 1, 0), 0);
        check.same("400 objects", x.object(0), 400);
        check.same("the last one", x.object(400), 16);
        check.fails("401", Check.ARGUMENT, () -> x.object(401));
    }

    /** Each thread makes arrays of its own size, so that the objects tell whose turn it was. */
    private static void turns() {
        AllocationProfiler x = new AllocationProfiler();
        Check.define(x, Check.LOAD, 0, Check.ARRAY, 8, Check.POP, 0, Check.GOTO, 0);
        Check.define(x, Check.PUSH, 0, Check.RETURN, 0);
        x.weave(50);
        x.start(2, 0, 2);
        x.run(1);
        x.start(1, 0, 1);
        x.start(0, 0, 0);
        check.same("steps", x.run(6), 6);
        check.same("objects", x.object(0), 3);
        // Thread 2 has had its step: 0 is next, then 1, then 2, which is at its ARRAY.
        check.same("first", x.object(1), 32);
        check.same("second", x.object(2), 16);
        check.same("third", x.object(3), 24);
        AllocationProfiler z = new AllocationProfiler();
        Check.define(z, Check.PUSH, 0, Check.RETURN, 0);
        z.weave(50);
        for (int thread = 2; thread >= 0; thread--) {
            z.start(thread, 0, 0);
        }
        for (int thread = 0; thread < 3; thread++) {
            z.run(thread == 0 ? 4 : 1);
            check.same("0 has the first turn", z.state(thread), 2);
            check.same("the next is not before", thread == 2 ? 1 : z.state(thread + 1), 1);
        }
        AllocationProfiler y = new AllocationProfiler();
        Check.define(y, Check.PUSH, 0, Check.RETURN, 0);
        y.weave(50);
        y.start(1, 0, 0);
        y.run(1);
        y.start(0, 0, 0);
        y.run(1);
        check.same("0 is next behind 1, for 2 does not run", y.state(0) * 10 + y.state(1), 11);
        y.run(1);
        check.same("then 1", y.state(0) * 10 + y.state(1), 12);
        y.run(1);
        check.same("then 0", y.state(0) * 10 + y.state(1), 22);
        check.same("no step moves no turn", y.run(200), 0);
        y.start(0, 0, 0);
        y.start(1, 0, 0);
        y.run(3);
        check.same("1 was next", y.state(0) * 10 + y.state(1), 12);
    }

    private static void running() {
        AllocationProfiler x = new AllocationProfiler();
        for (int n : new int[] {0, 201, -1, Integer.MAX_VALUE, Integer.MIN_VALUE}) {
            check.fails("run " + n, Check.ARGUMENT, () -> x.run(n));
        }
        check.same("nothing woven", x.run(1), 0);
        Check.define(x, Check.GOTO, 0);
        x.weave(50);
        check.same("nothing started", x.run(200), 0);
        x.start(0, 0, 0);
        check.same("1", x.run(1), 1);
        check.same("200", x.run(200), 200);
        check.fails("none", Check.ARGUMENT, () -> x.run(0));
    }

    private static void states() {
        AllocationProfiler x = new AllocationProfiler();
        Check.define(x, Check.LOAD, 0, Check.RETURN, 0);
        Check.define(x, Check.LOAD, 0, Check.THROW, 0);
        for (int n : new int[] {-1, 3, Integer.MAX_VALUE, Integer.MIN_VALUE}) {
            check.fails("state " + n, Check.ARGUMENT, () -> x.state(n));
            check.fails("result " + n, Check.ARGUMENT, () -> x.result(n));
        }
        check.same("IDLE", x.state(2), 0);
        x.weave(50);
        check.same("IDLE", x.state(2), 0);
        check.fails("IDLE", Check.ELEMENT, () -> x.result(2));
        for (int method = 0; method < 2; method++) {
            x.start(2, method, 41 + method);
            check.same("RUNNING", x.state(2), 1);
            check.fails("RUNNING", Check.ELEMENT, () -> x.result(2));
            x.run(1);
            check.same("RUNNING", x.state(2), 1);
            check.fails("RUNNING", Check.ELEMENT, () -> x.result(2));
            x.run(1);
            check.same("ended", x.state(2), 2 + method);
            check.same("result", x.result(2), 41 + method);
        }
        check.same("the others are IDLE", x.state(0) + x.state(1), 0);
    }

    private static void objects() {
        AllocationProfiler x = new AllocationProfiler();
        x.type(-1, 0, 0, 0, 0);
        x.type(-1, 3, 0, 0, 0);
        Check.define(x, Check.NEW, 1, Check.NEW, 0, Check.ADD, 0, Check.RETURN, 0);
        check.same("none", x.object(0), 0);
        check.fails("object 1 of none", Check.ARGUMENT, () -> x.object(1));
        x.weave(50);
        x.start(0, 0, 0);
        x.run(4);
        check.same("two", x.object(0), 2);
        check.same("the first", x.object(1), 40);
        check.same("the second", x.object(2), 16);
        check.same("put as their numbers", x.result(0), 3);
        for (int n : new int[] {-1, 3, 400, 401, Integer.MAX_VALUE, Integer.MIN_VALUE}) {
            check.fails("object " + n, Check.ARGUMENT, () -> x.object(n));
        }
    }
}
