/** Boundary cases of promises 1 to 3: a new object, type, size. */
public final class TypesEdgesTest extends Edges {
    public static void main(String[] args) {
        edge(1, "No types", TypesEdgesTest::noTypes);
        edge(1, "no methods", TypesEdgesTest::noMethods);
        edge(1, "an empty draft", TypesEdgesTest::emptyDraft);
        edge(1, "nothing woven", TypesEdgesTest::nothingWoven);
        edge(1, "A new object has nothing of another", TypesEdgesTest::nothingShared);
        edge(2, "A type: its number; numbered 0, 1, ..", TypesEdgesTest::numbers);
        edge(2, "the parent is not -1 or a type", TypesEdgesTest::parents);
        edge(2, "one of the others not 0 .. 3", TypesEdgesTest::fields);
        edge(2, "there are 6", TypesEdgesTest::sixTypes);
        edge(2, "it was woven", TypesEdgesTest::woven);
        edge(2, "IllegalArgumentException is named before IllegalStateException", TypesEdgesTest::argumentFirst);
        edge(2, "the END of a type begins at 12", TypesEdgesTest::endBeginsAtTwelve);
        edge(2, "or at its parent's end", TypesEdgesTest::endBeginsAtParents);
        edge(2, "each kind, if there are some", TypesEdgesTest::kindsWithNone);
        edge(2, "at the next multiple of its width", TypesEdgesTest::alignment);
        edge(2, "then come its longs, its ints, its chars, its bytes", TypesEdgesTest::orderOfKinds);
        edge(2, "the most fields, six types deep", TypesEdgesTest::mostFields);
        edge(3, "The SIZE is the next multiple of 8", TypesEdgesTest::sizes);
        edge(3, "IllegalArgumentException: there is none", TypesEdgesTest::sizeOfNone);
        edge(3, "The size of a type is told at any time", TypesEdgesTest::sizeWhenWoven);
        finish(1, 2, 3);
    }

    private static void noTypes() {
        AllocationProfiler x = fresh();
        refused("size", ARGUMENT, x::size, -1, 0, 1);
        check.fails("a child of type 0", ARGUMENT, () -> x.type(0, 0, 0, 0, 0));
        draft(x, NEW, 0, RETURN, 0);
        check.same("fault of NEW 0", faultOf(x), 0);
        check.same("the first type", x.type(-1, 0, 0, 0, 0), 0);
    }

    private static void noMethods() {
        AllocationProfiler x = fresh();
        check.fails("length(0, false)", ARGUMENT, () -> x.length(0, false));
        check.fails("length(0, true)", ARGUMENT, () -> x.length(0, true));
        check.fails("code(0, 0, 0)", ARGUMENT, () -> x.code(0, 0, 0));
        check.fails("site(0, 0)", ARGUMENT, () -> x.site(0, 0));
        check.fails("exclude(0)", ARGUMENT, () -> x.exclude(0));
        check.fails("start(0, 0, 0)", ARGUMENT, () -> x.start(0, 0, 0));
        check.fails("weave(50)", STATE, () -> x.weave(50));
        check.same("the first method", defineSeven(x), 0);
    }

    private static void emptyDraft() {
        AllocationProfiler x = fresh();
        check.fails("define() at once", ARGUMENT, x::define);
        check.same("fault() of it", x.fault(), 0);
        AllocationProfiler y = fresh();
        check.same("the first instruction", y.draft(PUSH, 1), 0);
        AllocationProfiler z = fresh();
        check.same("the first range", z.range(0, 1, 0), 1);
    }

    private static void nothingWoven() {
        AllocationProfiler x = withType();
        define(x, NEW, 0, RETURN, 0);
        check.fails("start", STATE, () -> x.start(0, 0, 0));
        check.fails("the site of NEW", Check.ELEMENT, () -> x.site(0, 0));
        check.fails("count(0, -1, 0)", ARGUMENT, () -> x.count(0, -1, 0));
        check.fails("rate(0)", ARGUMENT, () -> x.rate(0));
        check.fails("share(0)", ARGUMENT, () -> x.share(0));
        check.fails("estimate(0)", ARGUMENT, () -> x.estimate(0));
        check.fails("rounded(0)", ARGUMENT, () -> x.rounded(0));
        check.fails("entry(0, 0)", BOUNDS, () -> x.entry(0, 0));
        check.same("run(200)", x.run(200), 0);
        check.same("object(0)", x.object(0), 0);
        check.same("fault()", x.fault(), -1);
        for (int t = 0; t < 3; t++) {
            check.same("state of " + t, x.state(t), 0);
        }
        check.same("another type", x.type(-1, 0, 0, 0, 0), 1);
        check.same("another method", defineSeven(x), 1);
        x.exclude(1);
        check.same("weave", x.weave(50), 1);
    }

    private static void nothingShared() {
        AllocationProfiler x = withType();
        define(x, NEW, 0, RETURN, 0);
        x.weave(50);
        x.start(0, 0, 0);
        x.run(200);
        draft(x, PUSH, 1);
        AllocationProfiler y = fresh();
        check.fails("size(0)", ARGUMENT, () -> y.size(0));
        check.fails("length(0, true)", ARGUMENT, () -> y.length(0, true));
        check.same("object(0)", y.object(0), 0);
        check.same("state(0)", y.state(0), 0);
        check.same("the first instruction", y.draft(PUSH, 1), 0);
        check.same("the first type", y.type(-1, 3, 0, 0, 0), 0);
        check.same("the other's size", x.size(0), 16);
    }

    private static void numbers() {
        AllocationProfiler x = fresh();
        for (int n = 0; n < 6; n++) {
            check.same("type " + n, x.type(n - 1, 0, 0, 0, n % 2), n);
        }
    }

    private static void parents() {
        AllocationProfiler x = fresh();
        refused("a parent of none", ARGUMENT, p -> x.type(p, 0, 0, 0, 0), LEAST, -2, 0, 1, MOST);
        check.same("parent -1", x.type(-1, 0, 0, 0, 0), 0);
        refused("a parent of one type", ARGUMENT, p -> x.type(p, 0, 0, 0, 0), LEAST, -2, 1, 2, 5, 6, MOST);
        check.same("parent 0", x.type(0, 0, 0, 0, 0), 1);
        check.fails("itself", ARGUMENT, () -> x.type(2, 0, 0, 0, 0));
        check.same("the latest", x.type(1, 0, 0, 0, 0), 2);
        check.same("the first again", x.type(0, 0, 0, 0, 0), 3);
        check.same("none again", x.type(-1, 0, 0, 0, 0), 4);
        check.fails("itself, the last", ARGUMENT, () -> x.type(5, 0, 0, 0, 0));
        check.same("the fifth", x.type(4, 0, 0, 0, 0), 5);
    }

    private static void fields() {
        for (int place = 0; place < 4; place++) {
            AllocationProfiler x = fresh();
            int at = place;
            refused("kind " + place, ARGUMENT, n -> typeWith(x, at, n), LEAST, -1, 4, 5, MOST);
            check.fails("size(0): none was made", ARGUMENT, () -> x.size(0));
            check.same("0 of kind " + place, typeWith(x, place, 0), 0);
            check.same("3 of kind " + place, typeWith(x, place, 3), 1);
            check.same("the size", x.size(1), new int[] {40, 24, 24, 16}[place]);
        }
    }

    private static int typeWith(AllocationProfiler x, int place, int n) {
        int[] f = new int[4];
        f[place] = n;
        return x.type(-1, f[0], f[1], f[2], f[3]);
    }

    private static void sixTypes() {
        AllocationProfiler x = fresh();
        for (int n = 0; n < 5; n++) {
            x.type(-1, n % 4, 0, 0, 0);
        }
        check.same("the sixth", x.type(-1, 3, 3, 3, 3), 5);
        check.fails("a seventh", STATE, () -> x.type(-1, 0, 0, 0, 0));
        check.fails("a seventh, a child", STATE, () -> x.type(5, 0, 0, 0, 0));
        check.same("the sixth stays", x.size(5), 64);
        check.same("the first stays", x.size(0), 16);
        check.fails("there is no seventh", ARGUMENT, () -> x.size(6));
        draft(x, NEW, 5, RETURN, 0);
        check.same("NEW of the sixth", faultOf(x), -1);
        draft(x, NEW, 6, RETURN, 0);
        check.same("NEW of a seventh", faultOf(x), 0);
    }

    private static void woven() {
        AllocationProfiler x = fresh();
        x.type(-1, 0, 0, 0, 0);
        defineSeven(x);
        check.same("before", x.type(0, 0, 0, 0, 0), 1);
        x.weave(50);
        check.fails("behind", STATE, () -> x.type(-1, 0, 0, 0, 0));
        check.fails("a child", STATE, () -> x.type(1, 3, 3, 3, 3));
        check.fails("none was made", ARGUMENT, () -> x.size(2));
        AllocationProfiler y = fresh();
        defineSeven(y);
        check.fails("a weave that is refused", ARGUMENT, () -> y.weave(49));
        check.same("is none", y.type(-1, 0, 0, 0, 0), 0);
    }

    private static void argumentFirst() {
        AllocationProfiler x = fresh();
        for (int n = 0; n < 6; n++) {
            x.type(-1, 0, 0, 0, 0);
        }
        check.fails("a wrong parent, six types", ARGUMENT, () -> x.type(6, 0, 0, 0, 0));
        check.fails("wrong fields, six types", ARGUMENT, () -> x.type(-1, 0, 0, 4, 0));
        AllocationProfiler y = fresh();
        defineSeven(y);
        y.weave(50);
        check.fails("a wrong parent, woven", ARGUMENT, () -> y.type(0, 0, 0, 0, 0));
        check.fails("wrong fields, woven", ARGUMENT, () -> y.type(-1, -1, 0, 0, 0));
    }

    private static void sizeIs(AllocationProfiler x, int due, int parent, int longs, int ints, int chars, int bytes) {
        int n = x.type(parent, longs, ints, chars, bytes);
        check.same("size of " + parent + ": " + longs + " " + ints + " " + chars + " " + bytes, x.size(n), due);
    }

    private static void endBeginsAtTwelve() {
        AllocationProfiler x = fresh();
        sizeIs(x, 16, -1, 0, 0, 0, 0);
        sizeIs(x, 16, -1, 0, 1, 0, 0);
        sizeIs(x, 24, -1, 0, 1, 0, 1);
        sizeIs(x, 16, -1, 0, 0, 1, 2);
        sizeIs(x, 24, -1, 0, 0, 1, 3);
    }

    private static void endBeginsAtParents() {
        AllocationProfiler x = fresh();
        sizeIs(x, 16, -1, 0, 0, 0, 1);
        // Its size is 16, but its end is 13: three bytes fill it up, and then a fourth does not fit.
        sizeIs(x, 16, 0, 0, 0, 0, 3);
        sizeIs(x, 24, 1, 0, 0, 0, 1);
        sizeIs(x, 24, 2, 0, 0, 3, 0);
        sizeIs(x, 32, 3, 0, 0, 0, 1);
        sizeIs(x, 16, 0, 0, 0, 0, 0);
    }

    private static void kindsWithNone() {
        AllocationProfiler x = fresh();
        sizeIs(x, 16, -1, 0, 0, 0, 1);
        // Without longs, ints and chars nothing moves the end on from 13.
        sizeIs(x, 16, 0, 0, 0, 0, 3);
        sizeIs(x, 16, 0, 0, 0, 1, 0);
        // An end of 20 is not moved to 24 by no longs.
        sizeIs(x, 24, -1, 0, 2, 0, 0);
        sizeIs(x, 24, 3, 0, 1, 0, 0);
        sizeIs(x, 24, 3, 0, 0, 0, 0);
    }

    private static void alignment() {
        AllocationProfiler x = fresh();
        sizeIs(x, 24, -1, 1, 0, 0, 0);
        sizeIs(x, 16, -1, 0, 1, 0, 0);
        sizeIs(x, 24, 1, 1, 0, 0, 0);
        sizeIs(x, 24, -1, 0, 1, 0, 1);
        sizeIs(x, 32, 3, 1, 0, 0, 0);
        sizeIs(x, 32, 3, 0, 1, 0, 1);
        AllocationProfiler y = fresh();
        sizeIs(y, 16, -1, 0, 0, 0, 1);
        sizeIs(y, 24, 0, 0, 1, 0, 0);
        sizeIs(y, 16, 0, 0, 0, 1, 0);
        sizeIs(y, 24, 0, 0, 0, 1, 1);
        sizeIs(y, 16, -1, 0, 0, 1, 1);
        sizeIs(y, 24, 4, 0, 0, 1, 0);
    }

    private static void orderOfKinds() {
        AllocationProfiler x = fresh();
        // The gap in front of a long is not filled by what comes behind it.
        sizeIs(x, 32, -1, 1, 1, 0, 0);
        sizeIs(x, 32, -1, 1, 0, 1, 0);
        sizeIs(x, 32, -1, 1, 0, 0, 1);
        sizeIs(x, 16, -1, 0, 0, 0, 1);
        // 13: an int at 16, a char at 20, three bytes to 25.
        sizeIs(x, 32, 3, 0, 1, 1, 3);
        // 13: a char at 14, a byte to 17.
        sizeIs(x, 24, 3, 0, 0, 1, 1);
    }

    private static void mostFields() {
        AllocationProfiler x = fresh();
        for (int n = 0; n < 6; n++) {
            sizeIs(x, 64 + 48 * n, n - 1, 3, 3, 3, 3);
        }
    }

    private static void sizes() {
        AllocationProfiler x = fresh();
        sizeIs(x, 16, -1, 0, 0, 0, 3);
        sizeIs(x, 16, 0, 0, 0, 0, 1);
        sizeIs(x, 24, 0, 0, 0, 0, 2);
        sizeIs(x, 24, -1, 0, 3, 0, 0);
        sizeIs(x, 32, 3, 0, 0, 0, 1);
        sizeIs(x, 24, -1, 0, 2, 1, 1);
    }

    private static void sizeOfNone() {
        AllocationProfiler x = fresh();
        refused("size, none", ARGUMENT, x::size, LEAST, -1, 0, 1, MOST);
        x.type(-1, 0, 0, 0, 0);
        refused("size, one", ARGUMENT, x::size, LEAST, -1, 1, 2, MOST);
        check.same("the one", x.size(0), 16);
        for (int n = 1; n < 6; n++) {
            x.type(-1, 2, 0, 0, 0);
        }
        check.same("the last of six", x.size(5), 32);
        refused("size, six", ARGUMENT, x::size, LEAST, -1, 6, 7, MOST);
    }

    private static void sizeWhenWoven() {
        AllocationProfiler x = fresh();
        x.type(-1, 1, 0, 0, 0);
        defineSeven(x);
        x.weave(50);
        check.same("size(0)", x.size(0), 24);
        refused("size, woven", ARGUMENT, x::size, -1, 1);
    }
}
