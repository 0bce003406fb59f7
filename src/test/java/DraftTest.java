import java.util.Arrays;

/** Promises 4 to 7: draft, range, define, fault. */
public final class DraftTest {
    private static final Check check = new Check();

    public static void main(String[] args) {
        drafting();
        ranges();
        defining();
        limitOfMethods();
        wrongArguments();
        openEnds();
        wrongRanges();
        depths();
        handlers();
        orderOfPlaces();
        faults();
        check.finish();
    }

    private static void drafting() {
        AllocationProfiler x = new AllocationProfiler();
        for (int n : new int[] {-1, 16, 17, Integer.MAX_VALUE, Integer.MIN_VALUE}) {
            check.fails("operation " + n, Check.ARGUMENT, () -> x.draft(n, 0));
        }
        for (int i = 0; i < 24; i++) {
            check.same("draft", x.draft(i % 16, Integer.MIN_VALUE), i);
        }
        check.fails("a 25th", Check.STATE, () -> x.draft(0, 0));
        check.fails("a wrong 25th", Check.ARGUMENT, () -> x.draft(16, 0));
    }

    private static void ranges() {
        AllocationProfiler x = new AllocationProfiler();
        check.same("range", x.range(-7, Integer.MIN_VALUE, 99), 1);
        check.same("range", x.range(0, 0, 0), 2);
        check.fails("a third", Check.STATE, () -> x.range(0, 1, 0));
        check.fails("define", Check.ARGUMENT, x::define);
        check.same("the ranges are gone", x.range(0, 1, 0), 1);
    }

    private static void defining() {
        AllocationProfiler x = new AllocationProfiler();
        check.same("define", Check.define(x, Check.PUSH, 1, Check.RETURN, 0), 0);
        check.same("the draft is empty then", x.draft(Check.POP, 0), 0);
        check.fails("define", Check.ARGUMENT, x::define);
        check.same("and when it threw", x.draft(Check.PUSH, 5), 0);
        x.draft(Check.RETURN, 0);
        check.same("define", x.define(), 1);
        check.same("length", x.length(1, false), 2);
        x.weave(50);
        check.same("a draft may be made when it was woven", x.draft(Check.PUSH, 5), 0);
        check.same("a range, too", x.range(0, 1, 0), 1);
        check.fails("define, woven", Check.STATE, x::define);
        check.same("the draft is empty", x.draft(Check.PUSH, 5), 0);
        check.same("and without ranges", x.range(0, 1, 0), 1);
    }

    private static void limitOfMethods() {
        AllocationProfiler x = new AllocationProfiler();
        for (int m = 0; m < 6; m++) {
            check.same("define", Check.define(x, Check.PUSH, 1, Check.RETURN, 0), m);
        }
        Check.draft(x, Check.PUSH, 1, Check.RETURN, 0);
        check.fails("a seventh", Check.STATE, x::define);
        check.same("the draft is empty", x.draft(Check.POP, 0), 0);
        check.fails("a malformed seventh", Check.STATE, x::define);
        check.same("fault", x.fault(), -1);
    }

    /** Each of these operations with an argument that it may have, or not, behind a PUSH. */
    private static void wrongArguments() {
        argument(true, Check.PUSH, Integer.MIN_VALUE);
        for (int operation : new int[] {Check.LOAD, Check.STORE}) {
            argument(true, operation, 0);
            argument(true, operation, 3);
            argument(false, operation, 4);
            argument(false, operation, -1);
        }
        for (int operation : new int[] {Check.GOTO, Check.IFZERO, Check.IFNEG}) {
            argument(false, operation, -1);
            argument(false, operation, 6);
            argument(false, operation, Integer.MAX_VALUE);
        }
        argument(true, Check.NEW, 1);
        argument(false, Check.NEW, 2);
        argument(false, Check.NEW, -1);
        for (int width = -1; width < 20; width++) {
            argument(width == 1 || width == 2 || width == 4 || width == 8, Check.ARRAY, width);
        }
        argument(true, Check.CALL, 0);
        argument(true, Check.CALL, 1);
        argument(false, Check.CALL, 2);
        argument(false, Check.CALL, -1);
        argument(true, Check.DUP, 77);
        argument(true, Check.POP, -77);
    }

    private static void argument(boolean right, int operation, int a) {
        AllocationProfiler x = new AllocationProfiler();
        x.type(-1, 0, 0, 0, 0);
        x.type(-1, 0, 0, 0, 0);
        Check.define(x, Check.PUSH, 1, Check.RETURN, 0);
        Check.draft(x, Check.PUSH, 1, Check.PUSH, 2, operation, a, Check.PUSH, 0, Check.PUSH, 0, Check.RETURN, 0);
        int fault = Check.faultOf(x);
        check.same("operation " + operation + " with " + a, fault, right ? -1 : 2);
    }

    private static void openEnds() {
        for (int operation = 0; operation < 16; operation++) {
            AllocationProfiler x = new AllocationProfiler();
            x.type(-1, 0, 0, 0, 0);
            Check.draft(x, Check.PUSH, 0, Check.PUSH, 0, Check.POP, 0);
            x.draft(operation, operation == Check.GOTO || operation == Check.ARRAY ? 1 : 0);
            boolean closes = operation == Check.GOTO || operation == Check.RETURN || operation == Check.THROW;
            check.same("last is " + operation, Check.faultOf(x), closes ? -1 : 3);
        }
    }

    private static void wrongRanges() {
        range(-1, 0, 3, 0);
        range(-1, 2, 3, 2);
        range(24, -1, 3, 0);
        range(24, 1, 1, 0);
        range(24, 2, 1, 0);
        range(24, 0, 4, 0);
        range(24, 0, Integer.MAX_VALUE, 0);
        range(24, Integer.MIN_VALUE, 1, 0);
        range(24, 0, 1, 3);
        range(24, 0, 1, -1);
    }

    private static void range(int due, int begin, int end, int handler) {
        int[] code = {Check.PUSH, 1, Check.GOTO, 2, Check.RETURN, 0};
        String text = "range " + begin + " " + end + " " + handler;
        // Handler 0 is reached with 0 and 1: malformed at 0, but behind the ranges.
        int otherwise = handler == 0 ? 0 : -1;
        AllocationProfiler x = new AllocationProfiler();
        Check.draft(x, code);
        x.range(begin, end, handler);
        check.same(text, Check.faultOf(x), due == 24 ? 24 : otherwise);
        Check.draft(x, code);
        x.range(0, 3, 2);
        x.range(begin, end, handler);
        check.same("second " + text, Check.faultOf(x), due == 24 ? 25 : otherwise);
        Check.draft(x, code);
        x.range(begin, end, handler);
        x.range(begin, end, handler);
        check.same("both " + text, Check.faultOf(x), due == 24 ? 24 : otherwise);
    }

    private static void depths() {
        malformed(-1, Check.PUSH, 1, Check.PUSH, 1, Check.PUSH, 1, Check.PUSH, 1, Check.PUSH, 1, Check.RETURN, 0);
        malformed(6, Check.PUSH, 1, Check.PUSH, 1, Check.PUSH, 1, Check.PUSH, 1, Check.PUSH, 1, Check.PUSH, 1,
                Check.RETURN, 0);
        // What is reached with too many is followed by nothing: else 5 would be reached.
        malformed(8, Check.PUSH, 1, Check.DUP, 1, Check.DUP, 1, Check.DUP, 1, Check.GOTO, 6, Check.PUSH, 1,
                Check.DUP, 0, Check.DUP, 0, Check.GOTO, 5);
        for (int operation : new int[] {Check.ADD, Check.SUB, Check.MUL}) {
            malformed(1, Check.PUSH, 1, operation, 0, Check.RETURN, 0);
            malformed(-1, Check.PUSH, 1, Check.PUSH, 1, operation, 0, Check.RETURN, 0);
        }
        for (int operation : new int[] {Check.STORE, Check.DUP, Check.POP, Check.IFZERO, Check.IFNEG, Check.CALL,
            Check.RETURN, Check.THROW}) {
            malformed(0, operation, 0, Check.GOTO, 1);
        }
        malformed(0, Check.ARRAY, 1, Check.GOTO, 1);
        malformed(1, Check.GOTO, 1, Check.RETURN, 0);
        unreached();
        twoDepths();
    }

    private static void unreached() {
        malformed(-1, Check.GOTO, 2, Check.ADD, 0, Check.PUSH, 1, Check.RETURN, 0);
        malformed(-1, Check.PUSH, 1, Check.RETURN, 0, Check.POP, 0, Check.GOTO, 2);
        malformed(-1, Check.PUSH, 1, Check.THROW, 0, Check.POP, 0, Check.GOTO, 2);
        // What is reached with too few is followed by nothing.
        malformed(0, Check.POP, 0, Check.ADD, 0, Check.GOTO, 0);
    }

    private static void twoDepths() {
        malformed(2, Check.PUSH, 0, Check.IFZERO, 3, Check.GOTO, 2, Check.PUSH, 1, Check.GOTO, 2);
        malformed(0, Check.PUSH, 0, Check.GOTO, 0);
        malformed(-1, Check.GOTO, 0);
        // 8 is reached with 1 and 2 and goes on with both, so that 2 is the lowest such place.
        malformed(2, Check.PUSH, 0, Check.GOTO, 4, Check.PUSH, 7, Check.RETURN, 0, Check.PUSH, 0,
                Check.IFZERO, 8, Check.PUSH, 0, Check.GOTO, 8, Check.GOTO, 2);
        longLoop();
    }

    /** A loop with one number more each time: only behind its second time 1 is reached with a second number. */
    private static void longLoop() {
        AllocationProfiler x = new AllocationProfiler();
        Check.draft(x, Check.GOTO, 3, Check.PUSH, 0, Check.RETURN, 0, Check.GOTO, 4);
        for (int i = 0; i < 8; i++) {
            Check.draft(x, Check.PUSH, 0, Check.POP, 0);
        }
        Check.draft(x, Check.PUSH, 0, Check.DUP, 0, Check.IFZERO, 1, Check.GOTO, 3);
        check.same("fault of a long loop", Check.faultOf(x), 1);
    }

    private static void malformed(int due, int... code) {
        AllocationProfiler x = new AllocationProfiler();
        x.type(-1, 0, 0, 0, 0);
        Check.draft(x, code);
        check.same("fault of " + Arrays.toString(code), Check.faultOf(x), due);
    }

    private static void handlers() {
        // The handler is reached with 1, whatever is on the stack and whatever the instruction.
        handler(-1, 0, 2, 3, Check.PUSH, 1, Check.PUSH, 2, Check.GOTO, 2, Check.RETURN, 0);
        handler(3, 0, 2, 3, Check.PUSH, 1, Check.PUSH, 2, Check.GOTO, 3, Check.RETURN, 0);
        handler(3, 0, 2, 3, Check.PUSH, 1, Check.PUSH, 2, Check.GOTO, 2, Check.ADD, 0, Check.RETURN, 0);
        // Not of a range that has nothing that is reached.
        handler(-1, 3, 4, 3, Check.PUSH, 1, Check.PUSH, 2, Check.GOTO, 2, Check.ADD, 0, Check.RETURN, 0);
        // A begin is in the range, an end is not.
        handler(-1, 1, 2, 2, Check.GOTO, 0, Check.POP, 0, Check.ADD, 0, Check.RETURN, 0);
        handler(2, 0, 1, 2, Check.GOTO, 0, Check.POP, 0, Check.ADD, 0, Check.RETURN, 0);
        // What is reached with too few reaches no handler: else 0 would be reached with 1.
        handler(1, 1, 2, 0, Check.PUSH, 1, Check.ADD, 0, Check.RETURN, 0);
        // Each range that has it counts, not the first alone.
        AllocationProfiler x = new AllocationProfiler();
        Check.draft(x, Check.PUSH, 1, Check.RETURN, 0, Check.RETURN, 0, Check.ADD, 0, Check.RETURN, 0);
        x.range(0, 1, 2);
        x.range(0, 1, 3);
        check.same("second handler", Check.faultOf(x), 3);
    }

    private static void handler(int due, int begin, int end, int handler, int... code) {
        AllocationProfiler x = new AllocationProfiler();
        Check.draft(x, code);
        x.range(begin, end, handler);
        check.same("fault of " + Arrays.toString(code) + " with a handler", Check.faultOf(x), due);
    }

    private static void orderOfPlaces() {
        AllocationProfiler x = new AllocationProfiler();
        Check.draft(x, Check.STORE, 4, Check.LOAD, 9, Check.POP, 0);
        check.same("the first argument", Check.faultOf(x), 0);
        Check.draft(x, Check.ADD, 0, Check.LOAD, 9, Check.POP, 0);
        x.range(5, 1, 9);
        check.same("arguments first", Check.faultOf(x), 1);
        Check.draft(x, Check.ADD, 0, Check.LOAD, 3, Check.POP, 0);
        x.range(5, 1, 9);
        check.same("then the last", Check.faultOf(x), 2);
        Check.draft(x, Check.ADD, 0, Check.LOAD, 3, Check.RETURN, 0);
        x.range(5, 1, 9);
        check.same("then ranges", Check.faultOf(x), 24);
        Check.draft(x, Check.ADD, 0, Check.LOAD, 3, Check.RETURN, 0);
        check.same("then depths", Check.faultOf(x), 0);
        x.range(5, 1, 9);
        check.same("an empty draft", Check.faultOf(x), 0);
    }

    private static void faults() {
        AllocationProfiler x = new AllocationProfiler();
        check.same("none yet", x.fault(), -1);
        Check.draft(x, Check.PUSH, 0, Check.LOAD, 9);
        check.same("not before define", x.fault(), -1);
        check.fails("define", Check.ARGUMENT, x::define);
        check.same("malformed", x.fault(), 1);
        check.same("and again", x.fault(), 1);
        Check.draft(x, Check.PUSH, 0, Check.RETURN, 0);
        check.same("until the next define", x.fault(), 1);
        x.define();
        check.same("which threw nothing", x.fault(), -1);
        check.fails("define", Check.ARGUMENT, x::define);
        check.same("empty", x.fault(), 0);
        x.weave(50);
        check.same("weaving leaves it", x.fault(), 0);
        check.fails("define", Check.STATE, x::define);
        check.same("IllegalStateException", x.fault(), -1);
    }
}
