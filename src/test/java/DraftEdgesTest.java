import java.util.function.Consumer;

/** Boundary cases of promises 4 to 7, but for the numbers on the stack: draft, range, define, fault. */
public final class DraftEdgesTest extends Edges {
    public static void main(String[] args) {
        edge(4, "One more instruction in the draft: its number", DraftEdgesTest::numbers);
        edge(4, "there is no such operation (0 .. 15)", DraftEdgesTest::operations);
        edge(4, "IllegalStateException: there are 24", DraftEdgesTest::fullDraft);
        edge(4, "IllegalArgumentException is named before IllegalStateException", DraftEdgesTest::operationFirst);
        edge(4, "no argument is refused", DraftEdgesTest::anyArgument);
        edge(4, "nor is a draft when it was woven", DraftEdgesTest::draftWhenWoven);
        edge(5, "One more range in the draft: how many it has", DraftEdgesTest::rangeNumbers);
        edge(5, "IllegalStateException: there are 2", DraftEdgesTest::thirdRange);
        edge(5, "no begin, end or handler is refused", DraftEdgesTest::anyRange);
        edge(5, "nor is a range when it was woven", DraftEdgesTest::rangeWhenWoven);
        edge(6, "there are 6 methods", DraftEdgesTest::sixMethods);
        edge(6, "or it was woven", DraftEdgesTest::woven);
        edge(6, "otherwise IllegalArgumentException", DraftEdgesTest::otherwise);
        edge(6, "The draft is empty afterwards", DraftEdgesTest::emptyAfterwards);
        edge(6, "also when this throws", DraftEdgesTest::emptyWhenThrown);
        edge(6, "it is malformed: no method is made", DraftEdgesTest::malformedIsNone);
        edge(6, "a local, 0 .. 3", DraftEdgesTest::locals);
        edge(6, "an instruction for GOTO, IFZERO, IFNEG", DraftEdgesTest::targets);
        edge(6, "a type for NEW", DraftEdgesTest::typesForNew);
        edge(6, "a width for ARRAY", DraftEdgesTest::widths);
        edge(6, "a method with a number not above its own for CALL", DraftEdgesTest::callees);
        edge(6, "other arguments are free", DraftEdgesTest::freeArguments);
        edge(6, "the last instruction, if it is none of GOTO, RETURN, THROW", DraftEdgesTest::lastInstruction);
        edge(6, "the draft: at most 24", DraftEdgesTest::longestMethod);
        edge(7, "an empty draft: 0", DraftEdgesTest::emptyDraft);
        edge(7, "an instruction whose argument is not as said, the first", DraftEdgesTest::firstArgument);
        edge(7, "begin is below 0", DraftEdgesTest::begins);
        edge(7, "or not below its end", DraftEdgesTest::emptyRanges);
        edge(7, "whose end is above the number of instructions", DraftEdgesTest::ends);
        edge(7, "whose handler is no instruction", DraftEdgesTest::handlers);
        edge(7, "24 or 25 for the first range (0 or 1)", DraftEdgesTest::firstRange);
        edge(7, "each looked for among all before the next", DraftEdgesTest::orderOfPlaces);
        edge(7, "-1 when none was", DraftEdgesTest::noneWas);
        edge(7, "or when the latest define() threw nothing", DraftEdgesTest::threwNothing);
        edge(7, "or IllegalStateException", DraftEdgesTest::threwState);
        edge(7, "the latest draft: until the next define()", DraftEdgesTest::faultStays);
        finish(4, 5, 6, 7);
    }

    private static void numbers() {
        AllocationProfiler x = fresh();
        check.same("the first", x.draft(PUSH, 0), 0);
        check.same("the second", x.draft(PUSH, 0), 1);
        x.range(0, 1, 0);
        check.same("a range is no instruction", x.draft(RETURN, 0), 2);
    }

    private static void operations() {
        AllocationProfiler x = fresh();
        refused("operation", ARGUMENT, n -> x.draft(n, 0), LEAST, -1, 16, 17, MOST);
        check.same("what was refused is not there", x.draft(0, 0), 0);
        for (int operation = 1; operation < 16; operation++) {
            check.same("operation " + operation, x.draft(operation, 0), operation);
        }
        refused("operation", ARGUMENT, n -> x.draft(n, 0), -1, 16);
        check.same("what was refused is not there", x.draft(15, 0), 16);
    }

    private static void fullDraft() {
        AllocationProfiler x = fresh();
        for (int i = 0; i < 23; i++) {
            x.draft(i % 2 == 0 ? PUSH : POP, 0);
        }
        check.same("the 24th", x.draft(RETURN, 0), 23);
        check.fails("a 25th", STATE, () -> x.draft(RETURN, 0));
        check.fails("a 25th again", STATE, () -> x.draft(PUSH, 0));
        check.same("define", x.define(), 0);
        check.same("length", x.length(0, false), 24);
        check.same("the 24th is as it was", x.code(0, 23, 0), RETURN);
        check.same("there is room again", x.draft(PUSH, 0), 0);
    }

    private static void operationFirst() {
        AllocationProfiler x = fresh();
        for (int i = 0; i < 24; i++) {
            x.draft(PUSH, 0);
        }
        refused("operation, full", ARGUMENT, n -> x.draft(n, 0), -1, 16);
        refused("operation, full", STATE, n -> x.draft(n, 0), 0, 15);
    }

    private static void anyArgument() {
        AllocationProfiler x = fresh();
        for (int operation = 0; operation < 16; operation++) {
            check.same("operation " + operation, x.draft(operation, operation % 2 == 0 ? LEAST : MOST), operation);
        }
    }

    private static void draftWhenWoven() {
        AllocationProfiler x = fresh();
        defineSeven(x);
        x.weave(50);
        for (int i = 0; i < 24; i++) {
            check.same("instruction", x.draft(PUSH, 0), i);
        }
        check.fails("a 25th", STATE, () -> x.draft(PUSH, 0));
    }

    private static void rangeNumbers() {
        AllocationProfiler x = fresh();
        check.same("the first", x.range(0, 1, 0), 1);
        x.draft(PUSH, 0);
        check.same("the second", x.range(0, 1, 0), 2);
    }

    private static void thirdRange() {
        AllocationProfiler x = fresh();
        draft(x, PUSH, 7, GOTO, 2, RETURN, 0);
        x.range(0, 1, 2);
        x.range(1, 3, 2);
        check.fails("a third", STATE, () -> x.range(0, 2, 2));
        check.fails("a third that is wrong", STATE, () -> x.range(-1, 0, 99));
        x.define();
        check.same("the first stays", x.code(0, 0, 3), 1);
        check.same("the second stays", x.code(0, 1, 3), 3);
        check.fails("there are two", BOUNDS, () -> x.code(0, 2, 3));
        check.same("there is room again", x.range(0, 1, 0), 1);
    }

    private static void anyRange() {
        AllocationProfiler x = fresh();
        check.same("least", x.range(LEAST, LEAST, LEAST), 1);
        check.same("most", x.range(MOST, MOST, MOST), 2);
        check.fails("define", ARGUMENT, x::define);
        check.same("wrong order, in an empty draft", x.range(5, 1, -1), 1);
    }

    private static void rangeWhenWoven() {
        AllocationProfiler x = fresh();
        defineSeven(x);
        x.weave(50);
        check.same("first", x.range(0, 1, 0), 1);
        check.same("second", x.range(0, 1, 0), 2);
        check.fails("third", STATE, () -> x.range(0, 1, 0));
        check.fails("the method has none", BOUNDS, () -> x.code(0, 0, 2));
    }

    private static void sixMethods() {
        AllocationProfiler x = fresh();
        for (int m = 0; m < 6; m++) {
            check.same("method " + m, define(x, PUSH, m, RETURN, 0), m);
        }
        draft(x, PUSH, 6, RETURN, 0);
        check.fails("a seventh", STATE, x::define);
        check.fails("there is none", ARGUMENT, () -> x.length(6, false));
        check.same("the sixth stays", x.code(5, 0, 1), 5);
        check.same("the first stays", x.code(0, 0, 1), 0);
        draft(x, POP, 0);
        check.fails("a malformed seventh", STATE, x::define);
        check.fails("an empty seventh", STATE, x::define);
    }

    private static void woven() {
        AllocationProfiler x = fresh();
        check.same("before", defineSeven(x), 0);
        check.same("before", defineSeven(x), 1);
        x.weave(50);
        draft(x, PUSH, 0, RETURN, 0);
        check.fails("behind", STATE, x::define);
        check.fails("there is none", ARGUMENT, () -> x.length(2, true));
        draft(x, LOAD, 4);
        check.fails("malformed, behind", STATE, x::define);
        check.fails("empty, behind", STATE, x::define);
        AllocationProfiler y = fresh();
        check.fails("a weave of none", STATE, () -> y.weave(50));
        check.same("is no weave", defineSeven(y), 0);
        check.fails("a weave that is refused", ARGUMENT, () -> y.weave(100001));
        check.same("is no weave", defineSeven(y), 1);
    }

    private static void otherwise() {
        AllocationProfiler x = fresh();
        for (int m = 0; m < 5; m++) {
            defineSeven(x);
        }
        draft(x, PUSH, 0);
        check.fails("a malformed sixth", ARGUMENT, x::define);
        check.same("the sixth", defineSeven(x), 5);
        draft(x, PUSH, 0);
        check.fails("a malformed seventh", STATE, x::define);
    }

    private static void emptyAfterwards() {
        AllocationProfiler x = fresh();
        draft(x, PUSH, 0, GOTO, 2, RETURN, 0);
        x.range(0, 1, 2);
        x.range(0, 2, 2);
        x.define();
        isEmpty(x);
    }

    private static void isEmpty(AllocationProfiler x) {
        check.same("no instruction is left", x.draft(PUSH, 0), 0);
        check.same("no range is left", x.range(0, 1, 0), 1);
    }

    private static void emptyWhenThrown() {
        AllocationProfiler x = fresh();
        fillAndRefuse(x, ARGUMENT, y -> draft(y, POP, 0));
        x.define();
        for (int m = 1; m < 6; m++) {
            defineSeven(x);
        }
        fillAndRefuse(x, STATE, y -> draft(y, RETURN, 0));
        check.fails("seventh again", STATE, x::define);
        x.weave(50);
        fillAndRefuse(x, STATE, y -> draft(y, RETURN, 0));
    }

    /** Leaves a draft that can be defined. */
    private static void fillAndRefuse(AllocationProfiler x, Class<? extends RuntimeException> due,
            Consumer<AllocationProfiler> end) {
        draft(x, PUSH, 0, PUSH, 1);
        x.range(0, 1, 0);
        x.range(0, 1, 0);
        end.accept(x);
        check.fails("define", due, x::define);
        isEmpty(x);
        check.fails("define of what was just drafted", due, x::define);
        draft(x, PUSH, 0, RETURN, 0);
    }

    private static void malformedIsNone() {
        AllocationProfiler x = fresh();
        draft(x, PUSH, 0);
        check.fails("define", ARGUMENT, x::define);
        check.fails("length", ARGUMENT, () -> x.length(0, false));
        check.fails("weave", STATE, () -> x.weave(50));
        check.same("the next number", defineSeven(x), 0);
    }

    /** The fault of an operation with an argument, as instruction 2 of 6; there are two types and a method. */
    private static void argument(boolean right, int operation, int a) {
        AllocationProfiler x = withType();
        x.type(-1, 0, 0, 0, 0);
        defineSeven(x);
        draft(x, PUSH, 1, PUSH, 2, operation, a, PUSH, 0, PUSH, 0, RETURN, 0);
        check.same("fault of operation " + operation + " with " + a, faultOf(x), right ? -1 : 2);
    }

    private static void locals() {
        for (int operation : new int[] {LOAD, STORE}) {
            for (int local : new int[] {LEAST, -1, 4, 5, MOST}) {
                argument(false, operation, local);
            }
            for (int local = 0; local <= 3; local++) {
                argument(true, operation, local);
            }
        }
    }

    private static void targets() {
        for (int operation : new int[] {GOTO, IFZERO, IFNEG}) {
            for (int target : new int[] {LEAST, -1, 6, 7, 24, MOST}) {
                argument(false, operation, target);
            }
        }
        targetIs(-1, 0, GOTO, 0);
        targetIs(-1, 0, GOTO, 3);
        targetIs(0, 0, GOTO, 4);
        targetIs(-1, 1, PUSH, 0, IFZERO, 0);
        targetIs(-1, 1, PUSH, 0, IFZERO, 4);
        targetIs(1, 1, PUSH, 0, IFZERO, 5);
        targetIs(-1, 1, PUSH, 0, IFNEG, 0);
        targetIs(-1, 1, PUSH, 0, IFNEG, 4);
        targetIs(1, 1, PUSH, 0, IFNEG, 5);
    }

    /** A branch with GOTO, GOTO, GOTO behind it, all of which are reached with 0. */
    private static void targetIs(int due, int at, int... branch) {
        AllocationProfiler x = fresh();
        draft(x, branch);
        draft(x, GOTO, at + 2, GOTO, at + 3, GOTO, at + 1);
        check.same("fault of a branch to " + branch[2 * at + 1] + " of " + (at + 4), faultOf(x), due);
    }

    private static void typesForNew() {
        for (int type : new int[] {LEAST, -1, 2, 6, MOST}) {
            argument(false, NEW, type);
        }
        argument(true, NEW, 0);
        argument(true, NEW, 1);
        AllocationProfiler x = fresh();
        draft(x, NEW, 0, RETURN, 0);
        check.same("fault, no types", faultOf(x), 0);
        x.type(-1, 0, 0, 0, 0);
        draft(x, NEW, 0, RETURN, 0);
        check.same("fault, one type", faultOf(x), -1);
        draft(x, NEW, 1, RETURN, 0);
        x.type(-1, 0, 0, 0, 0);
        check.same("fault, a type that came behind the draft", faultOf(x), -1);
    }

    private static void widths() {
        for (int width = -8; width <= 17; width++) {
            argument(width == 1 || width == 2 || width == 4 || width == 8, ARRAY, width);
        }
        for (int width : new int[] {LEAST, 32, 64, 256 + 8, MOST}) {
            argument(false, ARRAY, width);
        }
    }

    private static void callees() {
        AllocationProfiler x = fresh();
        for (int own = 0; own < 6; own++) {
            for (int callee : new int[] {LEAST, -1, own + 1, 6, MOST}) {
                draft(x, PUSH, 0, CALL, callee, RETURN, 0);
                check.same("fault in " + own + ", CALL " + callee, faultOf(x), 1);
            }
            draft(x, PUSH, 0, CALL, 0, CALL, own, RETURN, 0);
            check.same("method " + own + " calls itself", x.define(), own);
        }
    }

    private static void freeArguments() {
        for (int operation : new int[] {PUSH, DUP, POP}) {
            argument(true, operation, LEAST);
            argument(true, operation, -1);
            argument(true, operation, MOST);
        }
        for (int operation : new int[] {ADD, SUB, MUL}) {
            argument(true, operation, LEAST);
            argument(true, operation, MOST);
        }
        AllocationProfiler x = fresh();
        check.same("RETURN", define(x, PUSH, 0, RETURN, LEAST), 0);
        check.same("THROW", define(x, PUSH, 0, THROW, MOST), 1);
        check.same("its argument is kept", x.code(0, 1, 1), LEAST);
        check.same("its argument is kept", x.code(1, 1, 1), MOST);
    }

    private static void lastInstruction() {
        for (int operation = 0; operation < 16; operation++) {
            AllocationProfiler x = withType();
            draft(x, PUSH, 0, PUSH, 0, POP, 0, operation, operation == GOTO || operation == ARRAY ? 1 : 0);
            boolean closes = operation == GOTO || operation == RETURN || operation == THROW;
            check.same("fault, the last is " + operation, faultOf(x), closes ? -1 : 3);
        }
        AllocationProfiler x = fresh();
        draft(x, PUSH, 0);
        check.same("fault, the only one", faultOf(x), 0);
        draft(x, GOTO, 0);
        check.same("the only one, GOTO", faultOf(x), -1);
        draft(x, PUSH, 0, RETURN, 0, POP, 0);
        check.same("the last is not reached", faultOf(x), 2);
    }

    private static void longestMethod() {
        AllocationProfiler x = fresh();
        for (int i = 0; i < 22; i++) {
            x.draft(i % 2 == 0 ? PUSH : POP, i);
        }
        draft(x, PUSH, 22, POP, 23);
        check.same("fault at the 24th", faultOf(x), 23);
        for (int i = 0; i < 22; i++) {
            x.draft(i % 2 == 0 ? PUSH : POP, i);
        }
        draft(x, PUSH, 22, RETURN, 23);
        x.range(23, 24, 23);
        check.same("24 instructions", x.define(), 0);
        check.same("the last argument", x.code(0, 23, 1), 23);
        check.same("the last end", x.code(0, 0, 3), 24);
        x.weave(50);
        x.start(0, 0, 0);
        check.same("steps", x.run(200), 24);
        check.same("result", x.result(0), 22);
    }

    private static void emptyDraft() {
        AllocationProfiler x = fresh();
        check.same("fault", faultOf(x), 0);
        x.range(-1, 0, 0);
        check.same("fault, with a wrong range", faultOf(x), 0);
        x.range(0, 1, 0);
        x.range(0, 0, 0);
        check.same("fault, with two ranges", faultOf(x), 0);
    }

    private static void firstArgument() {
        AllocationProfiler x = fresh();
        draft(x, LOAD, 4, LOAD, 4, LOAD, 4);
        check.same("fault, all", faultOf(x), 0);
        draft(x, LOAD, 3, LOAD, 4, LOAD, -1);
        check.same("fault, the second and third", faultOf(x), 1);
        draft(x, PUSH, 0, RETURN, 0, STORE, 4, GOTO, 0);
        check.same("fault, not reached", faultOf(x), 2);
        draft(x, PUSH, 0, RETURN, 0, GOTO, 4);
        check.same("fault, the last", faultOf(x), 2);
    }

    /** The fault of a range with three instructions, as the first and as the second; 2 may be a handler. */
    private static void range(boolean right, int begin, int end, int handler) {
        String text = "fault of " + begin + " .. " + end + " to " + handler;
        AllocationProfiler x = fresh();
        draft(x, PUSH, 1, GOTO, 2, RETURN, 0);
        x.range(begin, end, handler);
        check.same(text, faultOf(x), right ? -1 : 24);
        draft(x, PUSH, 1, GOTO, 2, RETURN, 0);
        x.range(0, 3, 2);
        x.range(begin, end, handler);
        check.same(text + ", second", faultOf(x), right ? -1 : 25);
    }

    private static void begins() {
        range(false, LEAST, 1, 2);
        range(false, -1, 1, 2);
        range(true, 0, 1, 2);
    }

    private static void emptyRanges() {
        range(true, 1, 2, 2);
        range(false, 1, 1, 2);
        range(false, 2, 1, 2);
        range(false, 0, 0, 2);
        range(false, 0, -1, 2);
        range(true, 2, 3, 2);
        range(false, 3, 3, 2);
        range(false, MOST, LEAST, 2);
    }

    private static void ends() {
        range(true, 0, 3, 2);
        range(false, 0, 4, 2);
        range(false, 2, 4, 2);
        range(false, 3, 4, 2);
        range(false, 0, 24, 2);
        range(false, 0, MOST, 2);
    }

    private static void handlers() {
        range(true, 0, 1, 2);
        range(false, 0, 1, 3);
        range(false, 0, 1, -1);
        range(false, 0, 1, 24);
        range(false, 0, 1, LEAST);
        range(false, 0, 1, MOST);
        // Handler 0 is an instruction, but it is reached with 0 and with 1: another place is told.
        AllocationProfiler x = fresh();
        draft(x, PUSH, 1, GOTO, 2, RETURN, 0);
        x.range(0, 1, 0);
        check.same("fault, handler 0", faultOf(x), 0);
        draft(x, GOTO, 2, RETURN, 0, GOTO, 2);
        x.range(0, 1, 1);
        check.same("fault, handler 1", faultOf(x), -1);
    }

    private static void firstRange() {
        AllocationProfiler x = fresh();
        draft(x, PUSH, 1, RETURN, 0);
        x.range(0, 0, 0);
        x.range(0, 0, 0);
        check.same("fault, both", faultOf(x), 24);
        draft(x, PUSH, 1, RETURN, 0);
        x.range(0, 1, 1);
        x.range(0, 0, 0);
        check.same("fault, the second", faultOf(x), 25);
        draft(x, PUSH, 1, RETURN, 0);
        x.range(0, 0, 0);
        x.range(0, 1, 1);
        check.same("fault, the first", faultOf(x), 24);
        draft(x, PUSH, 1, RETURN, 0);
        x.range(0, 1, 1);
        x.range(1, 2, 1);
        check.same("fault, none", faultOf(x), -1);
    }

    private static void orderOfPlaces() {
        AllocationProfiler x = fresh();
        draft(x, ADD, 0, PUSH, 0, LOAD, 4);
        x.range(0, 0, 0);
        check.same("an argument, though last and of a wrong end", faultOf(x), 2);
        draft(x, ADD, 0, LOAD, 4, POP, 0);
        x.range(0, 0, 0);
        check.same("an argument before the last", faultOf(x), 1);
        draft(x, ADD, 0, LOAD, 0, POP, 0);
        x.range(0, 0, 0);
        check.same("the last before ranges", faultOf(x), 2);
        draft(x, ADD, 0, LOAD, 0, RETURN, 0);
        x.range(0, 1, 2);
        x.range(0, 0, 0);
        check.same("ranges before what is reached", faultOf(x), 25);
        draft(x, ADD, 0, LOAD, 0, RETURN, 0);
        x.range(0, 1, 2);
        x.range(0, 1, 2);
        check.same("what is reached", faultOf(x), 0);
    }

    private static void noneWas() {
        AllocationProfiler x = fresh();
        check.same("fault() of a new object", x.fault(), -1);
        x.draft(LOAD, 4);
        x.range(0, 0, 0);
        check.same("fault() before define()", x.fault(), -1);
    }

    private static void threwNothing() {
        AllocationProfiler x = fresh();
        check.fails("define", ARGUMENT, x::define);
        check.same("fault() of it", x.fault(), 0);
        defineSeven(x);
        check.same("fault() behind a method", x.fault(), -1);
    }

    private static void threwState() {
        AllocationProfiler x = fresh();
        for (int m = 0; m < 5; m++) {
            defineSeven(x);
        }
        draft(x, LOAD, 0, LOAD, 4);
        check.fails("define", ARGUMENT, x::define);
        check.same("fault() of it", x.fault(), 1);
        defineSeven(x);
        draft(x, LOAD, 0, LOAD, 4);
        check.fails("a malformed seventh", STATE, x::define);
        check.same("fault() of it", x.fault(), -1);
        AllocationProfiler y = fresh();
        defineSeven(y);
        check.fails("define", ARGUMENT, y::define);
        y.weave(50);
        check.same("fault(), woven", y.fault(), 0);
        check.fails("define, woven", STATE, y::define);
        check.same("fault() of it", y.fault(), -1);
    }

    private static void faultStays() {
        AllocationProfiler x = fresh();
        draft(x, PUSH, 0, LOAD, 4);
        check.fails("define", ARGUMENT, x::define);
        check.same("fault()", x.fault(), 1);
        check.same("fault() again", x.fault(), 1);
        draft(x, PUSH, 0, RETURN, 0);
        x.range(0, 1, 1);
        check.fails("a wrong operation", ARGUMENT, () -> x.draft(16, 0));
        check.same("fault() with a new draft", x.fault(), 1);
        x.define();
        draft(x, PUSH, 0, RETURN, 0);
        x.range(0, 1, 2);
        check.fails("define", ARGUMENT, x::define);
        check.same("fault()", x.fault(), 24);
        x.exclude(0);
        x.weave(50);
        x.start(0, 0, 0);
        x.run(200);
        check.same("fault(), woven and run", x.fault(), 24);
    }
}
