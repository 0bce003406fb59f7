import java.util.TreeMap;
import java.util.function.IntConsumer;

/**
 * For tests of boundary cases: each sentence of the document that names one has a test of its own, which says
 * the promise it belongs to and the words it is about. An object is asked no more than 512 times.
 */
abstract class Edges {
    static final int PUSH = Check.PUSH, LOAD = Check.LOAD, STORE = Check.STORE, ADD = Check.ADD, SUB = Check.SUB,
            MUL = Check.MUL, DUP = Check.DUP, POP = Check.POP, GOTO = Check.GOTO, IFZERO = Check.IFZERO,
            IFNEG = Check.IFNEG, NEW = Check.NEW, ARRAY = Check.ARRAY, CALL = Check.CALL, RETURN = Check.RETURN,
            THROW = Check.THROW, REPORT = Check.REPORT;
    static final int LEAST = Integer.MIN_VALUE, MOST = Integer.MAX_VALUE;
    static final Class<IllegalArgumentException> ARGUMENT = Check.ARGUMENT;
    static final Class<IllegalStateException> STATE = Check.STATE;
    static final Class<IndexOutOfBoundsException> BOUNDS = Check.BOUNDS;
    static final Check check = new Check();

    private static final TreeMap<Integer, Integer> sentences = new TreeMap<>();

    static void edge(int promise, String words, Runnable test) {
        sentences.merge(promise, 1, Integer::sum);
        check.about("promise " + promise + ", \"" + words + "\"", test);
    }

    /** Each of these promises must have had a sentence. */
    static void finish(int... promises) {
        for (int promise : promises) {
            check.same("promise " + promise + " has a test", sentences.containsKey(promise) ? 1 : 0, 1);
        }
        System.out.println("sentences by promise: " + sentences);
        check.finish();
    }

    static AllocationProfiler fresh() {
        return new AllocationProfiler();
    }

    /** With one type, of 16 bytes. */
    static AllocationProfiler withType() {
        AllocationProfiler x = fresh();
        x.type(-1, 0, 0, 0, 0);
        return x;
    }

    static void draft(AllocationProfiler x, int... code) {
        Check.draft(x, code);
    }

    static int define(AllocationProfiler x, int... code) {
        return Check.define(x, code);
    }

    /** A method that returns 7. */
    static int defineSeven(AllocationProfiler x) {
        return define(x, PUSH, 7, RETURN, 0);
    }

    /** The place that is told when the draft is malformed, or -1 when it becomes a method. */
    static int faultOf(AllocationProfiler x) {
        return Check.faultOf(x);
    }

    static void refused(String what, Class<? extends RuntimeException> due, IntConsumer call, int... values) {
        for (int n : values) {
            check.fails(what + " " + n, due, () -> call.accept(n));
        }
    }
}
