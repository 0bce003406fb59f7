import java.util.Arrays;

/** Boundary cases of promises 6 and 7: with how many numbers on the stack an instruction is reached. */
public final class ReachEdgesTest extends Edges {
    /** How many numbers each operation takes and puts. */
    private static final int[] TAKES = {0, 0, 1, 2, 2, 2, 1, 1, 0, 1, 1, 0, 1, 1, 1, 1};
    private static final int[] PUTS = {1, 1, 0, 1, 1, 1, 2, 0, 0, 0, 0, 1, 1, 1, 0, 0};

    public static void main(String[] args) {
        edge(6, "reached with more than 5 numbers on the stack", ReachEdgesTest::sixNumbers);
        edge(6, "more than 5, whatever the instruction takes", ReachEdgesTest::sixForEach);
        edge(6, "with fewer than it takes", ReachEdgesTest::tooFew);
        edge(6, "reached with what is on the stack then", ReachEdgesTest::whatIsPut);
        edge(6, "with two different numbers of them", ReachEdgesTest::twoNumbers);
        edge(6, "the same number twice", ReachEdgesTest::sameNumber);
        edge(6, "Instruction 0 is reached with 0", ReachEdgesTest::firstInstruction);
        edge(6, "what may follow it: IFZERO and IFNEG, both", ReachEdgesTest::bothWays);
        edge(6, "what may follow it: GOTO, where it goes alone", ReachEdgesTest::oneWay);
        edge(6, "what may follow it: RETURN and THROW, nothing", ReachEdgesTest::noWay);
        edge(6, "that is REACHED: others are not looked at", ReachEdgesTest::notReached);
        edge(6, "reached with d, not above 5: else nothing follows", ReachEdgesTest::nothingBehindTooMany);
        edge(6, "and not fewer than it takes: else nothing follows", ReachEdgesTest::nothingBehindTooFew);
        edge(6, "two numbers: both are followed", ReachEdgesTest::bothNumbersFollow);
        edge(6, "the handler with 1", ReachEdgesTest::handlerWithOne);
        edge(6, "the handler of a range that has it: begin and end", ReachEdgesTest::beginAndEnd);
        edge(6, "the handler of each range", ReachEdgesTest::eachRange);
        edge(6, "but for handlers: a range with nothing that is reached", ReachEdgesTest::rangeNotReached);
        edge(6, "no handler of what is reached with too many or too few", ReachEdgesTest::noHandlerBehindWrong);
        edge(7, "the lowest instruction", ReachEdgesTest::lowest);
        finish(6, 7);
    }

    /** With one type and method 0; the fault of a draft. */
    private static void faultIs(int due, int... code) {
        AllocationProfiler x = withType();
        defineSeven(x);
        draft(x, code);
        check.same("fault of " + Arrays.toString(code), faultOf(x), due);
    }

    /** The same with a range. */
    private static void faultIs(int due, int[] range, int... code) {
        AllocationProfiler x = withType();
        defineSeven(x);
        draft(x, code);
        x.range(range[0], range[1], range[2]);
        check.same("fault of " + Arrays.toString(code) + " with " + Arrays.toString(range), faultOf(x), due);
    }

    private static int[] range(int begin, int end, int handler) {
        return new int[] {begin, end, handler};
    }

    /** An argument with which an operation as instruction i is not wrong, and goes on to the next. */
    private static int argumentAt(int operation, int i) {
        return operation == GOTO || operation == IFZERO || operation == IFNEG ? i + 1 : operation == ARRAY ? 1 : 0;
    }

    private static void sixNumbers() {
        faultIs(-1, PUSH, 1, PUSH, 2, PUSH, 3, PUSH, 4, PUSH, 5, RETURN, 0);
        faultIs(6, PUSH, 1, PUSH, 2, PUSH, 3, PUSH, 4, PUSH, 5, PUSH, 6, RETURN, 0);
        faultIs(-1, LOAD, 0, LOAD, 1, LOAD, 2, LOAD, 3, LOAD, 0, THROW, 0);
        faultIs(6, LOAD, 0, LOAD, 1, LOAD, 2, LOAD, 3, LOAD, 0, LOAD, 0, THROW, 0);
        faultIs(-1, PUSH, 1, DUP, 0, DUP, 0, DUP, 0, DUP, 0, GOTO, 5);
        faultIs(6, PUSH, 1, DUP, 0, DUP, 0, DUP, 0, DUP, 0, DUP, 0, GOTO, 6);
        faultIs(-1, NEW, 0, NEW, 0, NEW, 0, NEW, 0, NEW, 0, RETURN, 0);
        faultIs(6, NEW, 0, NEW, 0, NEW, 0, NEW, 0, NEW, 0, NEW, 0, RETURN, 0);
        faultIs(-1, PUSH, 1, PUSH, 1, PUSH, 1, PUSH, 1, PUSH, 1, ARRAY, 1, CALL, 0, RETURN, 0);
    }

    /** Each operation behind five numbers, and behind six: even one that would take some is wrong then. */
    private static void sixForEach() {
        for (int operation = 0; operation < 16; operation++) {
            for (int n = 5; n <= 6; n++) {
                AllocationProfiler x = withType();
                defineSeven(x);
                for (int i = 0; i < n; i++) {
                    x.draft(PUSH, i);
                }
                x.draft(operation, argumentAt(operation, n));
                x.draft(RETURN, 0);
                int due = n == 6 ? 6 : 5 - TAKES[operation] + PUTS[operation] > 5 ? 6 : -1;
                check.same("fault of operation " + operation + " behind " + n, faultOf(x), due);
            }
        }
    }

    private static void tooFew() {
        for (int operation = 0; operation < 16; operation++) {
            for (int n = Math.max(TAKES[operation] - 1, 0); n <= TAKES[operation]; n++) {
                AllocationProfiler x = withType();
                defineSeven(x);
                for (int i = 0; i < n; i++) {
                    x.draft(PUSH, i);
                }
                x.draft(operation, argumentAt(operation, n));
                draft(x, PUSH, 0, RETURN, 0);
                check.same("fault of operation " + operation + " behind " + n, faultOf(x),
                        n < TAKES[operation] ? n : -1);
            }
        }
        faultIs(0, ADD, 0, RETURN, 0);
    }

    /** Behind each operation, POPs take what it leaves: as many as there are, or one too many. */
    private static void whatIsPut() {
        for (int operation = 0; operation < 14; operation++) {
            int left = 2 - TAKES[operation] + PUTS[operation];
            for (int more = 0; more <= 1; more++) {
                AllocationProfiler x = withType();
                defineSeven(x);
                draft(x, PUSH, 0, PUSH, 0, operation, argumentAt(operation, 2));
                for (int i = 0; i < left + more; i++) {
                    x.draft(POP, 0);
                }
                x.draft(GOTO, 3 + left + more);
                check.same("fault of operation " + operation + " and " + (left + more) + " POPs", faultOf(x),
                        more == 0 ? -1 : 3 + left);
            }
        }
    }

    private static void twoNumbers() {
        // Where two ways meet with 0 and 1, with 1 and 0, with 1 and 2, with 4 and 5.
        faultIs(3, PUSH, 0, IFZERO, 3, PUSH, 1, GOTO, 3);
        faultIs(2, PUSH, 0, IFNEG, 3, GOTO, 2, PUSH, 1, GOTO, 2);
        faultIs(4, PUSH, 1, PUSH, 0, IFZERO, 4, PUSH, 2, RETURN, 0);
        faultIs(7, PUSH, 1, DUP, 0, DUP, 0, DUP, 0, PUSH, 0, IFZERO, 7, PUSH, 5, RETURN, 0);
        // A loop with one more each time, and one with one fewer.
        faultIs(1, PUSH, 0, PUSH, 0, GOTO, 1);
        faultIs(2, PUSH, 0, PUSH, 0, POP, 0, GOTO, 2);
    }

    private static void sameNumber() {
        faultIs(-1, PUSH, 0, IFZERO, 4, PUSH, 1, GOTO, 5, PUSH, 2, RETURN, 0);
        faultIs(-1, PUSH, 0, POP, 0, GOTO, 0);
        faultIs(-1, PUSH, 0, IFZERO, 2, GOTO, 2);
        faultIs(-1, PUSH, 1, DUP, 0, DUP, 0, DUP, 0, DUP, 0, IFZERO, 4, GOTO, 4);
        manyWaysBack();
    }

    /** Ten ways back to 0, all with 0: they must not hide that 22 lacks a number. */
    private static void manyWaysBack() {
        for (int last : new int[] {GOTO, POP}) {
            AllocationProfiler x = fresh();
            for (int i = 0; i < 11; i++) {
                draft(x, PUSH, 0, i % 2 == 0 ? IFZERO : IFNEG, 0);
            }
            draft(x, last, 0, GOTO, 0);
            check.same("fault at the end of many ways back", faultOf(x), last == POP ? 22 : -1);
        }
    }

    private static void firstInstruction() {
        faultIs(0, POP, 0, GOTO, 1);
        faultIs(0, RETURN, 0);
        faultIs(-1, GOTO, 0);
        faultIs(0, PUSH, 0, GOTO, 0);
        faultIs(-1, PUSH, 0, IFZERO, 0, GOTO, 0);
        faultIs(0, range(1, 2, 0), PUSH, 0, RETURN, 0);
    }

    private static void bothWays() {
        for (int operation : new int[] {IFZERO, IFNEG}) {
            faultIs(3, PUSH, 0, operation, 3, GOTO, 2, POP, 0, GOTO, 2);
            faultIs(2, PUSH, 0, operation, 3, POP, 0, GOTO, 3);
            faultIs(-1, PUSH, 0, operation, 3, GOTO, 2, GOTO, 2);
            faultIs(-1, PUSH, 1, PUSH, 0, operation, 4, RETURN, 0, THROW, 0);
        }
    }

    private static void oneWay() {
        faultIs(-1, GOTO, 2, POP, 0, GOTO, 0);
        faultIs(2, GOTO, 2, GOTO, 1, POP, 0, GOTO, 1);
        faultIs(-1, PUSH, 1, GOTO, 3, ADD, 0, RETURN, 0);
        faultIs(1, GOTO, 2, RETURN, 0, GOTO, 1);
    }

    private static void noWay() {
        faultIs(-1, PUSH, 0, RETURN, 0, ADD, 0, GOTO, 2);
        faultIs(-1, PUSH, 0, THROW, 0, ADD, 0, GOTO, 2);
        faultIs(-1, PUSH, 0, PUSH, 0, RETURN, 0, POP, 0, GOTO, 3);
        faultIs(-1, PUSH, 0, PUSH, 0, THROW, 0, RETURN, 0);
    }

    private static void notReached() {
        faultIs(-1, GOTO, 0, ADD, 0, RETURN, 0);
        faultIs(-1, GOTO, 0, PUSH, 0, PUSH, 0, PUSH, 0, PUSH, 0, PUSH, 0, PUSH, 0, PUSH, 0, RETURN, 0);
        faultIs(-1, GOTO, 0, PUSH, 0, GOTO, 1);
        // What is not reached reaches nothing.
        faultIs(-1, GOTO, 3, PUSH, 0, GOTO, 3, PUSH, 1, RETURN, 0);
        faultIs(1, GOTO, 1, ADD, 0, RETURN, 0);
    }

    private static void nothingBehindTooMany() {
        // 10 is reached with 6 and goes to 7, 8 is and goes to 5: these are lower, but not reached by that.
        faultIs(10, GOTO, 2, RETURN, 0, PUSH, 0, DUP, 0, DUP, 0, DUP, 0, GOTO, 8, POP, 0, DUP, 0, DUP, 0, GOTO, 7);
        faultIs(8, PUSH, 1, DUP, 0, DUP, 0, DUP, 0, GOTO, 6, ADD, 0, DUP, 0, DUP, 0, GOTO, 5);
        // 9 is reached with 6, and would lead by 10 to 1.
        faultIs(9, GOTO, 3, ADD, 0, RETURN, 0, PUSH, 1, PUSH, 1, PUSH, 1, PUSH, 1, PUSH, 1, PUSH, 1, POP, 0, GOTO, 1);
        faultIs(9, GOTO, 3, ADD, 0, RETURN, 0, PUSH, 1, PUSH, 1, PUSH, 1, PUSH, 1, PUSH, 1, PUSH, 1, IFZERO, 1, GOTO, 1);
    }

    private static void nothingBehindTooFew() {
        // 1 has nothing to take: 0 is not reached again.
        faultIs(1, PUSH, 0, ADD, 0, GOTO, 0);
        faultIs(2, GOTO, 2, ADD, 0, POP, 0, GOTO, 1);
        // IFZERO without a number goes to neither.
        faultIs(3, GOTO, 3, ADD, 0, GOTO, 1, IFZERO, 1, ADD, 0, GOTO, 1);
        faultIs(2, GOTO, 2, ADD, 0, IFNEG, 1, GOTO, 1);
    }

    /** 8 is reached with 1 and 2 and goes on to 2 with both; 2 is the lowest for that alone. */
    private static void bothNumbersFollow() {
        faultIs(2, PUSH, 0, GOTO, 4, PUSH, 7, RETURN, 0, PUSH, 0, IFZERO, 8, PUSH, 0, GOTO, 8, GOTO, 2);
        // 5 is reached with 1 and with 2, and POPs both; 1 takes one and lacks it once.
        faultIs(1, GOTO, 2, RETURN, 0, PUSH, 1, PUSH, 0, IFZERO, 6, PUSH, 2, POP, 0, GOTO, 1);
        longLoop();
    }

    /** One number more each time round a loop of 20: only the second time 1 is reached with another number. */
    private static void longLoop() {
        AllocationProfiler x = fresh();
        draft(x, GOTO, 3, PUSH, 0, RETURN, 0, GOTO, 4);
        for (int i = 0; i < 8; i++) {
            draft(x, PUSH, 0, POP, 0);
        }
        draft(x, PUSH, 0, DUP, 0, IFZERO, 1, GOTO, 3);
        check.same("fault of a long loop", faultOf(x), 1);
        // Another one, of 24 instructions.
        draft(x, GOTO, 3, PUSH, 0, RETURN, 0, GOTO, 4);
        for (int i = 0; i < 7; i++) {
            draft(x, PUSH, 0, POP, 0);
        }
        draft(x, PUSH, 0, PUSH, 0, IFZERO, 22, GOTO, 3, POP, 0, GOTO, 1);
        check.same("fault of a longer loop", faultOf(x), 1);
    }

    private static void handlerWithOne() {
        // From 0 numbers, and from 5.
        faultIs(-1, range(0, 1, 1), GOTO, 0, RETURN, 0);
        faultIs(-1, range(5, 6, 6), PUSH, 1, DUP, 0, DUP, 0, DUP, 0, DUP, 0, RETURN, 0, RETURN, 0);
        faultIs(1, range(0, 1, 1), GOTO, 0, ADD, 0, RETURN, 0);
        faultIs(-1, range(0, 1, 1), GOTO, 0, PUSH, 0, ADD, 0, RETURN, 0);
        // Four more beside the exception fit, five do not.
        faultIs(-1, range(0, 1, 1), GOTO, 0, PUSH, 1, PUSH, 2, PUSH, 3, PUSH, 4, RETURN, 0);
        faultIs(6, range(0, 1, 1), GOTO, 0, PUSH, 1, PUSH, 2, PUSH, 3, PUSH, 4, PUSH, 5, RETURN, 0);
        // A handler that is reached without an exception, too: with 1, with 0, with 2.
        faultIs(-1, range(0, 1, 1), PUSH, 1, RETURN, 0);
        faultIs(1, range(0, 1, 1), GOTO, 1, GOTO, 1);
        faultIs(2, range(0, 1, 2), PUSH, 1, PUSH, 2, RETURN, 0);
        // A handler in its own range.
        faultIs(-1, range(0, 2, 1), GOTO, 0, RETURN, 0);
        faultIs(-1, range(0, 3, 2), PUSH, 1, RETURN, 0, PUSH, 2, ADD, 0, GOTO, 2);
        faultIs(2, range(0, 3, 2), PUSH, 1, RETURN, 0, PUSH, 2, GOTO, 2);
    }

    private static void beginAndEnd() {
        // 0 and 1 are reached, 2 is not; 3 would lack a number.
        faultIs(3, range(0, 1, 3), PUSH, 0, RETURN, 0, GOTO, 2, ADD, 0, RETURN, 0);
        faultIs(3, range(1, 2, 3), PUSH, 0, RETURN, 0, GOTO, 2, ADD, 0, RETURN, 0);
        faultIs(-1, range(2, 3, 3), PUSH, 0, RETURN, 0, GOTO, 2, ADD, 0, RETURN, 0);
        faultIs(-1, range(2, 5, 3), PUSH, 0, RETURN, 0, GOTO, 2, ADD, 0, RETURN, 0);
        // 2 is reached, 0 .. 1 are before it.
        faultIs(-1, range(1, 2, 3), GOTO, 2, GOTO, 1, GOTO, 2, ADD, 0, RETURN, 0);
        faultIs(3, range(1, 3, 3), GOTO, 2, GOTO, 1, GOTO, 2, ADD, 0, RETURN, 0);
        faultIs(3, range(2, 3, 3), GOTO, 2, GOTO, 1, GOTO, 2, ADD, 0, RETURN, 0);
        faultIs(-1, range(3, 5, 3), GOTO, 2, GOTO, 1, GOTO, 2, ADD, 0, RETURN, 0);
    }

    private static void eachRange() {
        for (int second = 2; second <= 3; second++) {
            AllocationProfiler x = fresh();
            draft(x, PUSH, 1, RETURN, 0, RETURN, 0, ADD, 0, RETURN, 0);
            x.range(0, 1, 2);
            x.range(0, 1, second);
            check.same("fault, the second goes to " + second, faultOf(x), second == 3 ? 3 : -1);
            draft(x, PUSH, 1, RETURN, 0, RETURN, 0, ADD, 0, RETURN, 0);
            x.range(0, 1, second);
            x.range(0, 1, 2);
            check.same("fault, the first goes to " + second, faultOf(x), second == 3 ? 3 : -1);
        }
        // One range's handler stands in the other range, whose handler is reached for that alone.
        AllocationProfiler x = fresh();
        draft(x, PUSH, 1, RETURN, 0, RETURN, 0, ADD, 0, RETURN, 0);
        x.range(2, 3, 3);
        x.range(0, 1, 2);
        check.same("fault, one behind the other", faultOf(x), 3);
    }

    private static void rangeNotReached() {
        faultIs(-1, range(1, 2, 1), GOTO, 0, ADD, 0, GOTO, 1);
        faultIs(-1, range(1, 3, 3), GOTO, 0, ADD, 0, GOTO, 1, MUL, 0, GOTO, 1);
        faultIs(2, range(0, 1, 2), GOTO, 0, RETURN, 0, SUB, 0, RETURN, 0);
    }

    private static void noHandlerBehindWrong() {
        // 1 is wrong; by its handler 0 would be reached with 1, too.
        faultIs(1, range(1, 2, 0), PUSH, 1, ADD, 0, RETURN, 0);
        faultIs(6, range(6, 7, 0), PUSH, 1, DUP, 0, DUP, 0, DUP, 0, DUP, 0, DUP, 0, RETURN, 0);
        faultIs(0, range(5, 6, 0), PUSH, 1, DUP, 0, DUP, 0, DUP, 0, DUP, 0, RETURN, 0);
    }

    private static void lowest() {
        // Both 1 and 5 lack numbers; the way comes to one or the other first.
        faultIs(1, GOTO, 3, ADD, 0, RETURN, 0, PUSH, 0, IFZERO, 1, ADD, 0, RETURN, 0);
        faultIs(1, GOTO, 3, POP, 0, GOTO, 1, PUSH, 0, IFNEG, 6, GOTO, 1, MUL, 0, RETURN, 0);
        // 3 is reached with two numbers, 8 with too many; then 2 with too few, and higher ones with two numbers.
        faultIs(3, PUSH, 0, IFZERO, 3, PUSH, 0, PUSH, 0, PUSH, 0, PUSH, 0, PUSH, 0, PUSH, 0, PUSH, 0, RETURN, 0);
        faultIs(2, GOTO, 3, PUSH, 0, ADD, 0, PUSH, 0, DUP, 0, DUP, 0, DUP, 0, DUP, 0, IFZERO, 10, GOTO, 1,
                POP, 0, POP, 0, POP, 0, POP, 0, GOTO, 2);
        // The last instruction of the longest draft.
        AllocationProfiler x = fresh();
        for (int i = 0; i < 11; i++) {
            draft(x, PUSH, 0, POP, 0);
        }
        draft(x, GOTO, 23, RETURN, 0);
        check.same("fault at 23", faultOf(x), 23);
    }
}
