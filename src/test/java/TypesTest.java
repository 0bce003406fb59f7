/** Promises 1 to 3: a new object, type, size. */
public final class TypesTest {
    private static final Check check = new Check();

    public static void main(String[] args) {
        newObject();
        layouts();
        parents();
        wrongTypes();
        sizesOfNone();
        check.finish();
    }

    private static void newObject() {
        AllocationProfiler x = new AllocationProfiler();
        check.fails("size(0)", Check.ARGUMENT, () -> x.size(0));
        check.fails("length(0, false)", Check.ARGUMENT, () -> x.length(0, false));
        check.fails("exclude(0)", Check.ARGUMENT, () -> x.exclude(0));
        check.fails("code(0, 0, 0)", Check.ARGUMENT, () -> x.code(0, 0, 0));
        check.fails("site(0, 0)", Check.ARGUMENT, () -> x.site(0, 0));
        check.fails("start(0, 0, 0)", Check.ARGUMENT, () -> x.start(0, 0, 0));
        check.fails("count(0, 0, 0)", Check.ARGUMENT, () -> x.count(0, 0, 0));
        check.fails("entry(0, 0)", Check.BOUNDS, () -> x.entry(0, 0));
        check.fails("rate(0)", Check.ARGUMENT, () -> x.rate(0));
        check.fails("weave(50)", Check.STATE, () -> x.weave(50));
        check.same("fault()", x.fault(), -1);
        check.same("object(0)", x.object(0), 0);
        check.same("run(200)", x.run(200), 0);
        for (int t = 0; t < 3; t++) {
            int thread = t;
            check.same("state", x.state(thread), 0);
            check.fails("result", Check.ELEMENT, () -> x.result(thread));
        }
        check.same("the first instruction", x.draft(Check.PUSH, 3), 0);
        check.same("the first range", x.range(0, 1, 0), 1);
        AllocationProfiler other = new AllocationProfiler();
        check.same("objects share nothing", other.draft(Check.PUSH, 3), 0);
    }

    private static void layouts() {
        sizeIs(16, 0, 0, 0, 0);
        sizeIs(16, 0, 1, 0, 0);
        sizeIs(24, 0, 2, 0, 0);
        sizeIs(16, 0, 0, 2, 0);
        sizeIs(24, 0, 0, 3, 0);
        sizeIs(16, 0, 0, 0, 3);
        sizeIs(24, 1, 0, 0, 0);
        sizeIs(40, 3, 0, 0, 0);
        sizeIs(32, 1, 0, 1, 1);
        sizeIs(24, 0, 1, 1, 1);
        sizeIs(64, 3, 3, 3, 3);
    }

    private static void sizeIs(int due, int longs, int ints, int chars, int bytes) {
        AllocationProfiler x = new AllocationProfiler();
        check.same("type", x.type(-1, longs, ints, chars, bytes), 0);
        check.same("size of " + longs + " " + ints + " " + chars + " " + bytes, x.size(0), due);
    }

    private static void parents() {
        AllocationProfiler x = new AllocationProfiler();
        check.same("type 0", x.type(-1, 0, 0, 0, 1), 0);
        check.same("type 1", x.type(0, 0, 0, 0, 3), 1);
        check.same("bytes go on at the parent's end, not its size", x.size(1), 16);
        check.same("type 2", x.type(0, 0, 0, 1, 1), 2);
        check.same("chars of a child are aligned", x.size(2), 24);
        check.same("type 3", x.type(0, 0, 0, 1, 0), 3);
        check.same("12, 1 byte, 1 gap, a char", x.size(3), 16);
        check.same("type 4", x.type(1, 1, 0, 0, 0), 4);
        check.same("a long behind a full header", x.size(4), 24);
        check.same("type 5", x.type(4, 0, 0, 0, 0), 5);
        check.same("nothing more", x.size(5), 24);
        check.fails("a seventh type", Check.STATE, () -> x.type(-1, 0, 0, 0, 0));
        check.fails("the argument is looked at first", Check.ARGUMENT, () -> x.type(6, 0, 0, 0, 0));
    }

    private static void wrongTypes() {
        AllocationProfiler x = new AllocationProfiler();
        check.fails("parent 0 of none", Check.ARGUMENT, () -> x.type(0, 0, 0, 0, 0));
        check.fails("parent -2", Check.ARGUMENT, () -> x.type(-2, 0, 0, 0, 0));
        check.fails("parent below all", Check.ARGUMENT, () -> x.type(Integer.MIN_VALUE, 0, 0, 0, 0));
        for (int place = 0; place < 4; place++) {
            for (int n : new int[] {-1, 4, Integer.MAX_VALUE, Integer.MIN_VALUE}) {
                int[] f = new int[4];
                f[place] = n;
                check.fails("fields " + n, Check.ARGUMENT, () -> x.type(-1, f[0], f[1], f[2], f[3]));
            }
        }
        check.same("what was refused made no type", x.type(-1, 0, 0, 0, 0), 0);
        Check.define(x, Check.PUSH, 0, Check.RETURN, 0);
        x.weave(50);
        check.fails("type, woven", Check.STATE, () -> x.type(-1, 0, 0, 0, 0));
        check.fails("wrong type, woven", Check.ARGUMENT, () -> x.type(-1, 0, 0, 0, 4));
    }

    private static void sizesOfNone() {
        AllocationProfiler x = new AllocationProfiler();
        x.type(-1, 0, 0, 0, 0);
        for (int n : new int[] {-1, 1, 6, Integer.MAX_VALUE, Integer.MIN_VALUE}) {
            check.fails("size " + n, Check.ARGUMENT, () -> x.size(n));
        }
    }
}
