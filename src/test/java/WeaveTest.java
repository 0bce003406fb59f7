/** Promises 8 to 12: exclude, weave, length, code, site. */
public final class WeaveTest {
    private static final Check check = new Check();

    public static void main(String[] args) {
        excluding();
        excludedStays();
        weaving();
        lengths();
        longMethods();
        mostSites();
        wovenCode();
        wovenRanges();
        wrongCode();
        sites();
        check.finish();
    }

    private static AllocationProfiler withType() {
        AllocationProfiler x = new AllocationProfiler();
        x.type(-1, 1, 0, 0, 0);
        return x;
    }

    private static int defineMaker(AllocationProfiler x) {
        return Check.define(x, Check.NEW, 0, Check.RETURN, 0);
    }

    private static void excluding() {
        AllocationProfiler x = withType();
        check.fails("exclude(0) of none", Check.ARGUMENT, () -> x.exclude(0));
        defineMaker(x);
        for (int n : new int[] {-1, 1, 6, Integer.MAX_VALUE, Integer.MIN_VALUE}) {
            check.fails("exclude " + n, Check.ARGUMENT, () -> x.exclude(n));
        }
        x.exclude(0);
        x.exclude(0);
        check.same("weave", x.weave(50), 0);
        check.fails("exclude, woven", Check.STATE, () -> x.exclude(0));
        check.fails("exclude of none, woven", Check.ARGUMENT, () -> x.exclude(1));
    }

    private static void excludedStays() {
        AllocationProfiler x = withType();
        for (int m = 0; m < 3; m++) {
            defineMaker(x);
        }
        x.exclude(1);
        check.same("sites", x.weave(50), 2);
        check.same("length of 0", x.length(0, true), 3);
        check.same("length of 1", x.length(1, true), 2);
        check.same("length of 2", x.length(2, true), 3);
        check.same("site in 0", x.site(0, 0), 0);
        check.fails("site in 1", Check.ELEMENT, () -> x.site(1, 0));
        check.same("site in 2", x.site(2, 0), 1);
        x.start(0, 1, 0);
        check.same("steps of 1", x.run(200), 2);
        check.same("an object", x.object(0), 1);
        check.same("that is not reported", x.count(0, -1, 0) + x.count(1, -1, 0), 0);
    }

    private static void weaving() {
        AllocationProfiler x = withType();
        check.fails("no methods", Check.STATE, () -> x.weave(50));
        check.fails("no methods, wrong interval", Check.ARGUMENT, () -> x.weave(49));
        defineMaker(x);
        for (int n : new int[] {49, 100001, 0, -50, Integer.MAX_VALUE, Integer.MIN_VALUE}) {
            check.fails("weave " + n, Check.ARGUMENT, () -> x.weave(n));
        }
        check.same("what threw wove nothing", x.length(0, true), 2);
        check.same("weave", x.weave(100000), 1);
        check.fails("weave again", Check.STATE, () -> x.weave(50));
        check.fails("weave again, wrong interval", Check.ARGUMENT, () -> x.weave(100001));
        check.same("once", x.length(0, true), 3);
        AllocationProfiler y = new AllocationProfiler();
        Check.define(y, Check.PUSH, 0, Check.RETURN, 0);
        check.same("a weave without sites", y.weave(50), 0);
        check.fails("again", Check.STATE, () -> y.weave(50));
    }

    private static void lengths() {
        AllocationProfiler x = withType();
        check.fails("length(0, true)", Check.ARGUMENT, () -> x.length(0, true));
        Check.define(x, Check.NEW, 0, Check.ARRAY, 8, Check.RETURN, 0);
        check.same("before", x.length(0, false), 3);
        check.same("before, woven", x.length(0, true), 3);
        x.weave(50);
        check.same("as it was", x.length(0, false), 3);
        check.same("woven", x.length(0, true), 5);
        for (int n : new int[] {-1, 1, 6, Integer.MAX_VALUE, Integer.MIN_VALUE}) {
            check.fails("length " + n, Check.ARGUMENT, () -> x.length(n, true));
            check.fails("length " + n, Check.ARGUMENT, () -> x.length(n, false));
        }
    }

    private static void longMethods() {
        AllocationProfiler x = withType();
        defineLong(x, 4);
        defineLong(x, 5);
        defineLong(x, 1);
        check.same("sites", x.weave(50), 5);
        check.same("28 instructions are woven", x.length(0, true), 28);
        check.same("29 are not", x.length(1, true), 24);
        check.same("25", x.length(2, true), 25);
        check.same("as it was", x.length(1, false), 24);
        check.fails("no site", Check.ELEMENT, () -> x.site(1, 0));
        check.same("the next site", x.site(2, 0), 4);
        check.same("no report", x.code(1, 1, 0), Check.POP);
    }

    /** A method of 24 instructions with so many that make an object. */
    private static void defineLong(AllocationProfiler x, int makers) {
        for (int i = 0; i < 11; i++) {
            Check.draft(x, i < makers ? Check.NEW : Check.PUSH, 0, Check.POP, 0);
        }
        Check.define(x, Check.PUSH, 0, Check.RETURN, 0);
    }

    private static void mostSites() {
        AllocationProfiler x = withType();
        for (int m = 0; m < 6; m++) {
            x.draft(Check.PUSH, 1);
            for (int i = 0; i < 13; i++) {
                x.draft(Check.ARRAY, 1);
            }
            Check.define(x, Check.RETURN, 0);
        }
        check.same("sites", x.weave(50), 78);
        check.same("the last", x.site(5, 13), 77);
        check.same("its report", x.code(5, 26, 1), 77);
        x.start(2, 5, 0);
        x.start(1, 5, 0);
        check.same("steps", x.run(200), 30);
        check.same("its objects", x.count(77, 2, 0), 1);
        check.same("none elsewhere", x.count(64, -1, 0), 0);
        check.same("it has a rate", x.rate(77) >= 0 ? 1 : 0, 1);
        check.same("and a share", x.share(77) > 0 ? 1 : 0, 1);
        check.same("and an estimate", x.estimate(77) >= 0 ? 1 : 0, 1);
        check.fails("site 78", Check.ARGUMENT, () -> x.count(78, -1, 0));
    }

    private static void wovenCode() {
        AllocationProfiler x = withType();
        int[] code = {Check.LOAD, 0, Check.IFNEG, 6, Check.NEW, 0, Check.ARRAY, 2, Check.IFZERO, 2, Check.GOTO, 0,
            Check.PUSH, 9, Check.NEW, 0, Check.THROW, 5};
        int[] due = {Check.LOAD, 0, Check.IFNEG, 8, Check.NEW, 0, Check.REPORT, 0, Check.ARRAY, 2, Check.REPORT, 1,
            Check.IFZERO, 2, Check.GOTO, 0, Check.PUSH, 9, Check.NEW, 0, Check.REPORT, 2, Check.THROW, 5};
        Check.define(x, code);
        codeIs(x, code);
        check.fails("behind it", Check.BOUNDS, () -> x.code(0, 9, 0));
        check.fails("no site yet", Check.ELEMENT, () -> x.site(0, 2));
        check.same("sites", x.weave(50), 3);
        check.same("length", x.length(0, true), due.length / 2);
        codeIs(x, due);
    }

    private static void codeIs(AllocationProfiler x, int[] due) {
        for (int i = 0; i < due.length / 2; i++) {
            check.same("operation " + i, x.code(0, i, 0), due[2 * i]);
            check.same("argument " + i, x.code(0, i, 1), due[2 * i + 1]);
        }
    }

    private static void wovenRanges() {
        AllocationProfiler x = withType();
        Check.draft(x, Check.NEW, 0, Check.POP, 0, Check.NEW, 0, Check.POP, 0, Check.GOTO, 0, Check.NEW, 0,
                Check.ADD, 0, Check.RETURN, 0);
        x.range(1, 3, 5);
        x.range(2, 8, 7);
        x.define();
        rangeIs(x, 0, 1, 3, 5);
        rangeIs(x, 1, 2, 8, 7);
        x.weave(50);
        rangeIs(x, 0, 2, 5, 7);
        rangeIs(x, 1, 3, 11, 10);
    }

    private static void rangeIs(AllocationProfiler x, int r, int begin, int end, int handler) {
        check.same("begin " + r, x.code(0, r, 2), begin);
        check.same("end " + r, x.code(0, r, 3), end);
        check.same("handler " + r, x.code(0, r, 4), handler);
    }

    private static void wrongCode() {
        AllocationProfiler x = withType();
        Check.draft(x, Check.GOTO, 1, Check.NEW, 0, Check.RETURN, 0);
        x.range(0, 1, 2);
        x.define();
        x.weave(50);
        for (int n : new int[] {-1, 5, Integer.MAX_VALUE, Integer.MIN_VALUE}) {
            check.fails("what " + n, Check.ARGUMENT, () -> x.code(0, 0, n));
            check.fails("what " + n + " and no i", Check.ARGUMENT, () -> x.code(0, 99, n));
            check.fails("i " + n, Check.BOUNDS, () -> x.code(0, n, 0));
            check.fails("i " + n, Check.BOUNDS, () -> x.code(0, n, 1));
            check.fails("range " + n, Check.BOUNDS, () -> x.code(0, n, 2));
        }
        check.same("the last", x.code(0, 3, 0), Check.RETURN);
        check.fails("behind it", Check.BOUNDS, () -> x.code(0, 4, 0));
        check.fails("no method", Check.ARGUMENT, () -> x.code(1, 0, 0));
        check.fails("no method", Check.ARGUMENT, () -> x.code(-1, 99, 0));
        for (int what = 2; what <= 4; what++) {
            int part = what;
            check.fails("no second range", Check.BOUNDS, () -> x.code(0, 1, part));
        }
    }

    private static void sites() {
        AllocationProfiler x = withType();
        Check.define(x, Check.NEW, 0, Check.ARRAY, 1, Check.RETURN, 0);
        Check.define(x, Check.PUSH, 0, Check.ARRAY, 4, Check.RETURN, 0);
        check.fails("not woven", Check.ELEMENT, () -> x.site(0, 0));
        check.fails("not woven, no instruction", Check.ARGUMENT, () -> x.site(0, 3));
        x.weave(50);
        check.same("site", x.site(0, 0), 0);
        check.same("site", x.site(0, 1), 1);
        check.same("site", x.site(1, 1), 2);
        check.fails("RETURN", Check.ELEMENT, () -> x.site(0, 2));
        check.fails("PUSH", Check.ELEMENT, () -> x.site(1, 0));
        for (int n : new int[] {-1, 3, 4, Integer.MAX_VALUE, Integer.MIN_VALUE}) {
            check.fails("instruction " + n, Check.ARGUMENT, () -> x.site(0, n));
        }
        for (int n : new int[] {-1, 2, 6, Integer.MAX_VALUE, Integer.MIN_VALUE}) {
            check.fails("method " + n, Check.ARGUMENT, () -> x.site(n, 0));
        }
    }
}
