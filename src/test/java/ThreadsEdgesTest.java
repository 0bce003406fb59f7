/** Boundary cases of promises 13 to 17, as calls: start, run, state, result, object. */
public final class ThreadsEdgesTest extends Edges {
    public static void main(String[] args) {
        edge(13, "there is no such thread", ThreadsEdgesTest::startThreads);
        edge(13, "or method", ThreadsEdgesTest::startMethods);
        edge(13, "nothing was woven", ThreadsEdgesTest::startBefore);
        edge(13, "or the thread is running", ThreadsEdgesTest::startRunning);
        edge(13, "IllegalArgumentException is named before IllegalStateException", ThreadsEdgesTest::startBoth);
        edge(13, "A thread runs a method with x, from now on: again", ThreadsEdgesTest::startAgain);
        edge(13, "with x: the least and the most", ThreadsEdgesTest::startWith);
        edge(13, "A method begins with locals 0 but for local 0", ThreadsEdgesTest::localsAtStart);
        edge(14, "steps is not 1 .. 200", ThreadsEdgesTest::steps);
        edge(14, "a call that is refused does no step", ThreadsEdgesTest::refusedSteps);
        edge(14, "as long as a thread is running", ThreadsEdgesTest::asLongAs);
        edge(14, "how many were done: none", ThreadsEdgesTest::noSteps);
        edge(14, "at first 0", ThreadsEdgesTest::firstTurn);
        edge(14, "that with the next number", ThreadsEdgesTest::nextTurn);
        edge(14, "0 behind 2", ThreadsEdgesTest::turnBehindTwo);
        edge(14, "that runs: others are passed over", ThreadsEdgesTest::passedOver);
        edge(14, "whose turn it is, from one run() to the next", ThreadsEdgesTest::turnStays);
        edge(14, "A REPORT behind a NEW or ARRAY is done in the same step", ThreadsEdgesTest::reportInStep);
        edge(15, "0 IDLE, 1 RUNNING, 2 RETURNED, 3 THROWN", ThreadsEdgesTest::states);
        edge(15, "IllegalArgumentException: there is no such thread", ThreadsEdgesTest::stateOfNone);
        edge(16, "What a thread has returned or thrown", ThreadsEdgesTest::results);
        edge(16, "IllegalArgumentException: there is no such thread", ThreadsEdgesTest::resultOfNone);
        edge(16, "it has done neither", ThreadsEdgesTest::noResult);
        edge(16, "since it was started", ThreadsEdgesTest::noResultSince);
        edge(17, "How many objects there are (n = 0)", ThreadsEdgesTest::howMany);
        edge(17, "or the size of object n", ThreadsEdgesTest::sizes);
        edge(17, "IllegalArgumentException: there is none", ThreadsEdgesTest::noObject);
        finish(13, 14, 15, 16, 17);
    }

    /** Method 0 returns x, method 1 throws it. */
    private static AllocationProfiler returnAndThrow() {
        AllocationProfiler p = fresh();
        define(p, LOAD, 0, RETURN, 0);
        define(p, LOAD, 0, THROW, 0);
        p.weave(50);
        return p;
    }

    /** Method 0 makes an array of x bytes in its second step of three; method 1 goes on for ever. */
    private static AllocationProfiler arrays() {
        AllocationProfiler p = fresh();
        define(p, LOAD, 0, ARRAY, 1, RETURN, 0);
        define(p, GOTO, 0);
        p.weave(100000);
        return p;
    }

    private static void statesAre(AllocationProfiler p, int zero, int one, int two) {
        check.same("states", p.state(0) * 100 + p.state(1) * 10 + p.state(2), zero * 100 + one * 10 + two);
    }

    private static void startThreads() {
        AllocationProfiler p = returnAndThrow();
        refused("start of thread", ARGUMENT, n -> p.start(n, 0, 0), LEAST, -1, 3, 4, MOST);
        statesAre(p, 0, 0, 0);
        p.start(0, 0, 0);
        statesAre(p, 1, 0, 0);
        p.start(2, 0, 0);
        statesAre(p, 1, 0, 1);
        p.start(1, 0, 0);
        statesAre(p, 1, 1, 1);
    }

    private static void startMethods() {
        AllocationProfiler p = returnAndThrow();
        refused("start of method", ARGUMENT, n -> p.start(0, n, 0), LEAST, -1, 2, 3, 6, MOST);
        statesAre(p, 0, 0, 0);
        p.start(0, 1, 5);
        p.run(2);
        check.same("the last method throws", p.state(0), 3);
        AllocationProfiler q = fresh();
        for (int m = 0; m < 6; m++) {
            define(q, PUSH, m, RETURN, 0);
        }
        q.weave(50);
        refused("start of method", ARGUMENT, n -> q.start(1, n, 0), -1, 6, 7);
        q.start(1, 5, 0);
        q.run(2);
        check.same("the last of six", q.result(1), 5);
    }

    private static void startBefore() {
        AllocationProfiler p = fresh();
        defineSeven(p);
        for (int t = 0; t < 3; t++) {
            int thread = t;
            check.fails("start of " + t, STATE, () -> p.start(thread, 0, 0));
        }
        statesAre(p, 0, 0, 0);
        check.same("no step", p.run(1), 0);
        p.weave(50);
        p.start(0, 0, 0);
        check.same("a step", p.run(1), 1);
    }

    private static void startRunning() {
        AllocationProfiler p = returnAndThrow();
        p.start(1, 0, 41);
        check.fails("at once", STATE, () -> p.start(1, 0, 42));
        p.run(1);
        check.fails("behind a step", STATE, () -> p.start(1, 1, 43));
        check.same("the steps go on", p.run(200), 1);
        check.same("as it was started", p.result(1), 41);
        check.same("state", p.state(1), 2);
        p.start(1, 1, 44);
        check.same("returned: it starts again", p.state(1), 1);
        p.run(2);
        check.same("thrown", p.state(1), 3);
        p.start(1, 0, 45);
        check.same("thrown: it starts again", p.state(1), 1);
        p.start(0, 0, 46);
        check.same("another may start", p.state(0), 1);
    }

    private static void startBoth() {
        AllocationProfiler p = fresh();
        defineSeven(p);
        refused("start of thread, not woven", ARGUMENT, n -> p.start(n, 0, 0), -1, 3);
        refused("start of method, not woven", ARGUMENT, n -> p.start(0, n, 0), -1, 1);
        p.weave(50);
        p.start(0, 0, 0);
        refused("start of method, running", ARGUMENT, n -> p.start(0, n, 0), -1, 1);
    }

    private static void startAgain() {
        AllocationProfiler p = returnAndThrow();
        for (int k = 0; k < 20; k++) {
            p.start(k % 3, k % 2, k);
            check.same("steps", p.run(200), 2);
            check.same("state", p.state(k % 3), 2 + k % 2);
            check.same("result", p.result(k % 3), k);
        }
    }

    private static void startWith() {
        AllocationProfiler p = returnAndThrow();
        for (int x : new int[] {LEAST, -1, 0, 1, MOST}) {
            p.start(0, 0, x);
            p.run(2);
            check.same("returned", p.result(0), x);
            p.start(0, 1, x);
            p.run(2);
            check.same("thrown", p.result(0), x);
        }
    }

    private static void localsAtStart() {
        AllocationProfiler p = fresh();
        for (int local = 0; local < 4; local++) {
            define(p, LOAD, local, PUSH, 90, STORE, 0, PUSH, 91, STORE, 1, PUSH, 92, STORE, 2, PUSH, 93, STORE, 3,
                    RETURN, 0);
        }
        p.weave(50);
        for (int k = 0; k < 8; k++) {
            p.start(1, k % 4, 8);
            p.run(200);
            check.same("local " + k % 4, p.result(1), k % 4 == 0 ? 8 : 0);
        }
    }

    private static void steps() {
        AllocationProfiler p = arrays();
        p.start(0, 1, 0);
        refused("run", ARGUMENT, p::run, LEAST, -1, 0, 201, 202, MOST);
        check.same("1", p.run(1), 1);
        check.same("2", p.run(2), 2);
        check.same("199", p.run(199), 199);
        check.same("200", p.run(200), 200);
    }

    private static void refusedSteps() {
        AllocationProfiler p = returnAndThrow();
        refused("run, nothing running", ARGUMENT, p::run, 0, 201);
        p.start(0, 0, 7);
        refused("run", ARGUMENT, p::run, -1, 0, 201, MOST);
        check.same("still running", p.state(0), 1);
        check.same("both steps are left", p.run(200), 2);
    }

    private static void asLongAs() {
        AllocationProfiler p = returnAndThrow();
        p.start(0, 0, 7);
        check.same("more than it has", p.run(3), 2);
        p.start(0, 0, 7);
        check.same("as many as it has", p.run(2), 2);
        check.same("it has returned", p.state(0), 2);
        p.start(0, 0, 7);
        check.same("fewer than it has", p.run(1), 1);
        check.same("it is running", p.state(0), 1);
        check.same("the rest", p.run(1), 1);
        for (int t = 0; t < 3; t++) {
            p.start(t, t % 2, 7);
        }
        check.same("three threads", p.run(200), 6);
        statesAre(p, 2, 3, 2);
        AllocationProfiler q = arrays();
        q.start(0, 0, 0);
        q.start(1, 1, 0);
        check.same("one ends, one goes on", q.run(200), 200);
        statesAre(q, 2, 1, 0);
    }

    private static void noSteps() {
        AllocationProfiler p = fresh();
        check.same("no methods", p.run(200), 0);
        defineSeven(p);
        check.same("not woven", p.run(1), 0);
        p.weave(50);
        check.same("not started", p.run(200), 0);
        p.start(2, 0, 0);
        p.run(200);
        check.same("ended", p.run(200), 0);
        check.same("ended", p.run(1), 0);
    }

    /** The sizes of the objects tell the order of the threads that have made them: 24, 32, 40 for 0, 1, 2. */
    private static void made(AllocationProfiler p, int... threads) {
        check.same("objects", p.object(0), threads.length);
        for (int n = 0; n < threads.length; n++) {
            check.same("object " + (n + 1), p.object(n + 1), 24 + 8 * threads[n]);
        }
    }

    private static void go(AllocationProfiler p, int thread) {
        p.start(thread, 0, 8 + 8 * thread);
    }

    private static void firstTurn() {
        AllocationProfiler p = arrays();
        go(p, 2);
        go(p, 1);
        go(p, 0);
        check.same("steps", p.run(4), 4);
        made(p, 0);
        AllocationProfiler q = arrays();
        go(q, 2);
        go(q, 1);
        check.same("steps, without 0", q.run(3), 3);
        made(q, 1);
    }

    private static void nextTurn() {
        AllocationProfiler p = arrays();
        go(p, 2);
        go(p, 1);
        go(p, 0);
        p.run(6);
        made(p, 0, 1, 2);
        p.run(1);
        statesAre(p, 2, 1, 1);
        p.run(1);
        statesAre(p, 2, 2, 1);
        p.run(1);
        statesAre(p, 2, 2, 2);
    }

    private static void turnBehindTwo() {
        AllocationProfiler p = arrays();
        go(p, 2);
        p.run(1);
        go(p, 0);
        go(p, 1);
        // 0, 1, 2 with its object, 0 and 1 with theirs.
        p.run(5);
        made(p, 2, 0, 1);
        AllocationProfiler q = arrays();
        go(q, 2);
        go(q, 1);
        q.run(2);
        go(q, 0);
        q.run(1);
        made(q);
        q.run(2);
        made(q, 1, 2);
        q.run(1);
        made(q, 1, 2, 0);
    }

    private static void passedOver() {
        // Without 1: 0 and 2 by turns.
        AllocationProfiler p = arrays();
        go(p, 0);
        go(p, 2);
        p.run(3);
        made(p, 0);
        p.run(1);
        made(p, 0, 2);
        // 0 has returned, 2 goes on alone.
        p.run(1);
        statesAre(p, 2, 0, 1);
        p.run(1);
        statesAre(p, 2, 0, 2);
        // 1 alone.
        go(p, 1);
        p.run(2);
        made(p, 0, 2, 1);
        // 0 and 1: 2 has returned and is passed over.
        AllocationProfiler q = arrays();
        go(q, 1);
        q.run(1);
        go(q, 0);
        q.run(1);
        made(q);
        q.run(1);
        made(q, 1);
        q.run(1);
        made(q, 1, 0);
    }

    private static void turnStays() {
        AllocationProfiler p = arrays();
        go(p, 0);
        p.run(3);
        // 0 had the last step, so that 1 is next, also when nothing has run in between.
        check.same("nothing runs", p.run(200), 0);
        go(p, 0);
        go(p, 1);
        p.run(3);
        made(p, 0, 1);
        AllocationProfiler q = arrays();
        go(q, 0);
        go(q, 1);
        go(q, 2);
        for (int step = 0; step < 5; step++) {
            check.same("one at a time", q.run(1), 1);
        }
        made(q, 0, 1);
    }

    private static void reportInStep() {
        AllocationProfiler p = withType();
        define(p, NEW, 0, RETURN, 0);
        define(p, PUSH, 0, ARRAY, 4, RETURN, 0);
        p.weave(50);
        p.start(0, 0, 0);
        check.same("the step of NEW", p.run(1), 1);
        check.same("its object", p.object(0), 1);
        check.same("its report", p.count(0, 0, 0), 1);
        check.same("the step of RETURN", p.run(200), 1);
        p.start(0, 1, 0);
        check.same("PUSH and ARRAY", p.run(2), 2);
        check.same("its report", p.count(1, 0, 0), 1);
        check.same("the step of RETURN", p.run(200), 1);
        check.same("state", p.state(0), 2);
    }

    private static void states() {
        AllocationProfiler p = returnAndThrow();
        statesAre(p, 0, 0, 0);
        p.start(0, 0, 0);
        p.start(1, 1, 0);
        statesAre(p, 1, 1, 0);
        p.run(2);
        statesAre(p, 1, 1, 0);
        p.run(1);
        statesAre(p, 2, 1, 0);
        p.run(1);
        statesAre(p, 2, 3, 0);
        p.start(1, 0, 0);
        statesAre(p, 2, 1, 0);
    }

    private static void stateOfNone() {
        AllocationProfiler p = fresh();
        refused("state", ARGUMENT, p::state, LEAST, -1, 3, 4, MOST);
        statesAre(p, 0, 0, 0);
        AllocationProfiler q = returnAndThrow();
        for (int t = 0; t < 3; t++) {
            q.start(t, 0, 0);
        }
        refused("state, all running", ARGUMENT, q::state, LEAST, -1, 3, 4, MOST);
    }

    private static void results() {
        AllocationProfiler p = returnAndThrow();
        p.start(0, 0, LEAST);
        p.start(1, 1, MOST);
        p.start(2, 0, 0);
        p.run(200);
        check.same("the least", p.result(0), LEAST);
        check.same("the most", p.result(1), MOST);
        check.same("0", p.result(2), 0);
        check.same("again", p.result(0), LEAST);
    }

    private static void resultOfNone() {
        AllocationProfiler p = returnAndThrow();
        refused("result", ARGUMENT, p::result, LEAST, -1, 3, 4, MOST);
        for (int t = 0; t < 3; t++) {
            p.start(t, 0, t);
        }
        p.run(200);
        refused("result, all ended", ARGUMENT, p::result, LEAST, -1, 3, 4, MOST);
        check.same("the last thread", p.result(2), 2);
    }

    private static void noResult() {
        AllocationProfiler p = fresh();
        refused("result of a new object", Check.ELEMENT, p::result, 0, 1, 2);
        AllocationProfiler q = returnAndThrow();
        q.start(0, 0, 9);
        refused("result, IDLE or RUNNING", Check.ELEMENT, q::result, 0, 1, 2);
        q.run(1);
        refused("result, RUNNING", Check.ELEMENT, q::result, 0);
        q.run(1);
        check.same("RETURNED", q.result(0), 9);
        refused("result, IDLE", Check.ELEMENT, q::result, 1, 2);
    }

    private static void noResultSince() {
        AllocationProfiler p = returnAndThrow();
        for (int method = 0; method < 2; method++) {
            p.start(0, method, 5);
            p.run(2);
            check.same("the first time", p.result(0), 5);
            p.start(0, method, 6);
            check.fails("started again", Check.ELEMENT, () -> p.result(0));
            p.run(1);
            check.fails("behind a step", Check.ELEMENT, () -> p.result(0));
            p.run(1);
            check.same("the second time", p.result(0), 6);
        }
    }

    private static void howMany() {
        AllocationProfiler p = arrays();
        check.same("none", p.object(0), 0);
        p.start(0, 0, 0);
        p.run(1);
        check.same("none yet", p.object(0), 0);
        p.run(1);
        check.same("one", p.object(0), 1);
        p.run(1);
        p.start(1, 0, -1);
        p.run(200);
        check.same("what was thrown is none", p.object(0), 1);
        p.start(2, 0, 0);
        p.run(200);
        check.same("by all threads", p.object(0), 2);
        check.same("its number", p.result(2), 2);
    }

    private static void sizes() {
        AllocationProfiler p = fresh();
        p.type(-1, 0, 0, 0, 0);
        p.type(0, 3, 3, 3, 3);
        define(p, NEW, 1, NEW, 0, PUSH, 0, ARRAY, 8, PUSH, 99984, ARRAY, 1, RETURN, 0);
        p.exclude(0);
        p.weave(50);
        p.start(0, 0, 0);
        p.run(200);
        check.same("the first", p.object(1), 64);
        check.same("the second", p.object(2), 16);
        check.same("the shortest array", p.object(3), 16);
        check.same("the largest", p.object(4), 100000);
        check.same("how many, with none reported", p.object(0), 4);
    }

    private static void noObject() {
        AllocationProfiler p = arrays();
        refused("object, none", ARGUMENT, p::object, LEAST, -1, 1, 2, MOST);
        p.start(0, 0, 0);
        p.run(200);
        refused("object, one", ARGUMENT, p::object, LEAST, -1, 2, 3, 400, 401, MOST);
        check.same("the one", p.object(1), 16);
    }
}
