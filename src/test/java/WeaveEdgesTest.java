/** Boundary cases of promises 8 to 12: exclude, weave, length, code, site. */
public final class WeaveEdgesTest extends Edges {
    public static void main(String[] args) {
        edge(8, "A method is to be excluded from weaving", WeaveEdgesTest::excluded);
        edge(8, "IllegalArgumentException: there is none", WeaveEdgesTest::excludeNone);
        edge(8, "IllegalStateException: it was woven", WeaveEdgesTest::excludeWoven);
        edge(8, "IllegalArgumentException is named before IllegalStateException", WeaveEdgesTest::excludeBoth);
        edge(9, "the interval is not 50 .. 100000", WeaveEdgesTest::intervals);
        edge(9, "it was woven already", WeaveEdgesTest::wovenAlready);
        edge(9, "or there are no methods", WeaveEdgesTest::noMethods);
        edge(9, "IllegalArgumentException is named before IllegalStateException", WeaveEdgesTest::weaveBoth);
        edge(9, "how many sites there are: none", WeaveEdgesTest::noSites);
        edge(9, "how many sites there are: the most", WeaveEdgesTest::mostSites);
        edge(9, "behind each NEW and ARRAY, REPORT s (operation 16)", WeaveEdgesTest::reports);
        edge(9, "in the order of methods and instructions", WeaveEdgesTest::orderOfSites);
        edge(9, "What goes to an instruction goes to the same one", WeaveEdgesTest::targets);
        edge(9, "the same one: right behind a REPORT", WeaveEdgesTest::targetBehindReport);
        edge(9, "begins, ends and handlers, too", WeaveEdgesTest::rangesMove);
        edge(9, "an end that stands at an instruction behind a REPORT stands behind that", WeaveEdgesTest::endMoves);
        edge(9, "an end behind the last instruction", WeaveEdgesTest::lastEnd);
        edge(9, "more than 28 instructions", WeaveEdgesTest::longMethods);
        edge(9, "more than 28: with the most that make objects", WeaveEdgesTest::manyMakers);
        edge(9, "or that is EXCLUDED, stays as it is and has no sites", WeaveEdgesTest::staysAsItIs);
        edge(10, "woven or as it was", WeaveEdgesTest::lengths);
        edge(10, "when nothing was woven yet, both are the same", WeaveEdgesTest::lengthsBefore);
        edge(10, "IllegalArgumentException: there is none", WeaveEdgesTest::lengthOfNone);
        edge(11, "Of instruction i what 0 the operation, 1 the argument", WeaveEdgesTest::instructions);
        edge(11, "of its range i what 2 the begin, 3 the end, 4 the handler", WeaveEdgesTest::ranges);
        edge(11, "before weaving: of the method", WeaveEdgesTest::codeBefore);
        edge(11, "there is no such method or what", WeaveEdgesTest::noSuchWhat);
        edge(11, "IndexOutOfBoundsException: no such i", WeaveEdgesTest::noSuchPlace);
        edge(11, "no such i: a range of a method that has none, one, two", WeaveEdgesTest::noSuchRange);
        edge(12, "The site of instruction i of a method as it was", WeaveEdgesTest::sites);
        edge(12, "there is no such method or instruction", WeaveEdgesTest::siteOfNone);
        edge(12, "NoSuchElementException: it has none", WeaveEdgesTest::noSite);
        edge(12, "it has none: nothing was woven", WeaveEdgesTest::siteBefore);
        finish(8, 9, 10, 11, 12);
    }

    private static int defineMaker(AllocationProfiler x) {
        return define(x, NEW, 0, RETURN, 0);
    }

    private static AllocationProfiler withMakers(int methods) {
        AllocationProfiler x = withType();
        for (int m = 0; m < methods; m++) {
            defineMaker(x);
        }
        return x;
    }

    private static void excluded() {
        AllocationProfiler x = withMakers(6);
        x.exclude(0);
        x.exclude(5);
        x.exclude(5);
        check.same("sites", x.weave(50), 4);
        for (int m = 0; m < 6; m++) {
            check.same("length of " + m, x.length(m, true), m == 0 || m == 5 ? 2 : 3);
        }
    }

    private static void excludeNone() {
        AllocationProfiler x = withType();
        refused("exclude, no methods", ARGUMENT, x::exclude, LEAST, -1, 0, 1, MOST);
        defineMaker(x);
        refused("exclude, one method", ARGUMENT, x::exclude, LEAST, -1, 1, 2, 6, MOST);
        // What was refused is not kept for a method that comes later.
        defineMaker(x);
        check.same("sites", x.weave(50), 2);
        AllocationProfiler y = withMakers(6);
        refused("exclude, six methods", ARGUMENT, y::exclude, -1, 6, 7);
        y.exclude(5);
        check.same("sites", y.weave(50), 5);
    }

    private static void excludeWoven() {
        AllocationProfiler x = withMakers(2);
        x.weave(50);
        refused("exclude", STATE, x::exclude, 0, 1);
        check.same("length", x.length(0, true), 3);
        check.same("site", x.site(1, 0), 1);
        AllocationProfiler y = withMakers(1);
        check.fails("a weave that is refused", ARGUMENT, () -> y.weave(0));
        y.exclude(0);
        check.same("sites", y.weave(50), 0);
    }

    private static void excludeBoth() {
        AllocationProfiler x = withMakers(1);
        x.weave(50);
        refused("exclude, woven", ARGUMENT, x::exclude, -1, 1);
    }

    private static void intervals() {
        AllocationProfiler x = withMakers(1);
        refused("weave", ARGUMENT, x::weave, LEAST, -50, -1, 0, 1, 49, 100001, 100050, MOST);
        check.same("it is not woven", x.length(0, true), 2);
        check.same("50", x.weave(50), 1);
        AllocationProfiler y = withMakers(1);
        check.same("100000", y.weave(100000), 1);
    }

    private static void wovenAlready() {
        AllocationProfiler x = withMakers(2);
        check.same("sites", x.weave(50), 2);
        refused("weave again", STATE, x::weave, 50, 51, 100000);
        check.same("the length stays", x.length(0, true), 3);
        check.same("the second site stays", x.site(1, 0), 1);
        AllocationProfiler y = fresh();
        defineSeven(y);
        check.same("no sites", y.weave(50), 0);
        check.fails("weave again", STATE, () -> y.weave(50));
        // What is refused leaves the interval: else 56 bytes would make a sample.
        AllocationProfiler z = fresh();
        define(z, PUSH, 40, ARRAY, 1, RETURN, 0);
        z.weave(57);
        check.fails("weave again", STATE, () -> z.weave(50));
        z.start(0, 0, 0);
        z.run(200);
        check.same("samples", z.count(0, -1, 2), 0);
    }

    private static void noMethods() {
        AllocationProfiler x = fresh();
        check.fails("weave", STATE, () -> x.weave(50));
        x.type(-1, 0, 0, 0, 0);
        check.fails("weave, a type", STATE, () -> x.weave(100000));
        draft(x, PUSH, 0, RETURN, 0);
        check.fails("weave, a draft", STATE, () -> x.weave(50));
        x.define();
        check.same("weave, a method", x.weave(50), 0);
    }

    private static void weaveBoth() {
        AllocationProfiler x = fresh();
        refused("weave, no methods", ARGUMENT, x::weave, 49, 100001);
        defineSeven(x);
        x.weave(50);
        refused("weave again", ARGUMENT, x::weave, 49, 100001);
    }

    private static void noSites() {
        AllocationProfiler x = fresh();
        defineSeven(x);
        check.same("sites", x.weave(50), 0);
        check.fails("count(0, -1, 0)", ARGUMENT, () -> x.count(0, -1, 0));
        check.same("length", x.length(0, true), 2);
        x.start(0, 0, 0);
        check.same("it runs", x.run(200), 2);
    }

    /** 13 ARRAYs, a PUSH and a RETURN are 28 instructions; six such methods have the most sites. */
    private static void mostSites() {
        AllocationProfiler x = fresh();
        for (int m = 0; m < 6; m++) {
            x.draft(PUSH, 40);
            for (int i = 0; i < 13; i++) {
                x.draft(ARRAY, 1);
            }
            define(x, RETURN, 0);
        }
        check.same("sites", x.weave(50), 78);
        check.same("the last", x.site(5, 13), 77);
        check.same("the last REPORT", x.code(5, 26, 1), 77);
        x.start(0, 5, 0);
        check.same("steps", x.run(200), 15);
        check.same("objects of the last", x.count(77, 0, 0), 1);
        check.same("bytes of the last", x.count(77, -1, 1), 32);
        // 56 bytes, eight times 24 and four times 32: 376, with seven samples.
        check.same("share of the last", x.share(77), 32f / 376f);
        check.same("estimate of the last", x.estimate(77), 1.0 * 376.0 / 7.0);
        check.same("rounded of the last", x.rounded(77), 54);
        x.start(1, 5, 0);
        x.run(1);
        check.same("rate of the 66th", x.rate(65), 56 * 0.25);
        check.same("rate of the last", x.rate(77), 32 * 0.25);
        check.fails("a site more", ARGUMENT, () -> x.count(78, -1, 0));
        check.fails("a rate more", ARGUMENT, () -> x.rate(78));
    }

    private static void codeIs(AllocationProfiler x, int method, int... due) {
        check.same("length of " + method, x.length(method, true), due.length / 2);
        for (int i = 0; i < due.length / 2; i++) {
            check.same("operation " + i, x.code(method, i, 0), due[2 * i]);
            check.same("argument " + i, x.code(method, i, 1), due[2 * i + 1]);
        }
    }

    private static void rangeIs(AllocationProfiler x, int r, int begin, int end, int handler) {
        check.same("begin " + r, x.code(0, r, 2), begin);
        check.same("end " + r, x.code(0, r, 3), end);
        check.same("handler " + r, x.code(0, r, 4), handler);
    }

    private static void reports() {
        AllocationProfiler x = withType();
        define(x, NEW, 0, NEW, 0, ARRAY, 8, ARRAY, 1, RETURN, 5);
        check.same("sites", x.weave(50), 4);
        codeIs(x, 0, NEW, 0, REPORT, 0, NEW, 0, REPORT, 1, ARRAY, 8, REPORT, 2, ARRAY, 1, REPORT, 3, RETURN, 5);
    }

    private static void orderOfSites() {
        AllocationProfiler x = withMakers(1);
        define(x, PUSH, 0, ARRAY, 1, NEW, 0, RETURN, 0);
        defineSeven(x);
        // The order is that of the instructions, not that in which they are reached.
        define(x, GOTO, 3, NEW, 0, RETURN, 0, NEW, 0, POP, 0, GOTO, 1);
        x.weave(50);
        check.same("site", x.site(0, 0), 0);
        check.same("site", x.site(1, 1), 1);
        check.same("site", x.site(1, 2), 2);
        check.same("site", x.site(3, 1), 3);
        check.same("site", x.site(3, 3), 4);
    }

    private static void targets() {
        AllocationProfiler x = withType();
        // To the first, to NEW itself, to what is before one and behind one, to the last.
        define(x, NEW, 0, IFZERO, 0, NEW, 0, IFNEG, 2, NEW, 0, GOTO, 6, IFZERO, 8, GOTO, 2, PUSH, 0, ARRAY, 1,
                IFZERO, 11, GOTO, 4);
        x.weave(50);
        codeIs(x, 0, NEW, 0, REPORT, 0, IFZERO, 0, NEW, 0, REPORT, 1, IFNEG, 3, NEW, 0, REPORT, 2, GOTO, 9,
                IFZERO, 11, GOTO, 3, PUSH, 0, ARRAY, 1, REPORT, 3, IFZERO, 15, GOTO, 6);
    }

    /** From 3 to 5, right behind the NEW: past its REPORT, which is not done then. */
    private static void targetBehindReport() {
        AllocationProfiler x = withType();
        define(x, LOAD, 0, IFZERO, 4, PUSH, 5, GOTO, 5, NEW, 0, RETURN, 0);
        x.weave(50);
        codeIs(x, 0, LOAD, 0, IFZERO, 4, PUSH, 5, GOTO, 6, NEW, 0, REPORT, 0, RETURN, 0);
        x.start(0, 0, 1);
        check.same("steps past it", x.run(200), 5);
        check.same("result", x.result(0), 5);
        check.same("no report", x.count(0, -1, 0), 0);
        x.start(0, 0, 0);
        check.same("steps through it", x.run(200), 4);
        check.same("a report", x.count(0, -1, 0), 1);
    }

    private static void rangesMove() {
        AllocationProfiler x = withType();
        draft(x, NEW, 0, POP, 0, NEW, 0, THROW, 0, NEW, 0, ADD, 0, RETURN, 0);
        x.range(0, 3, 4);
        x.range(3, 5, 6);
        x.define();
        x.weave(50);
        rangeIs(x, 0, 0, 5, 6);
        rangeIs(x, 1, 5, 8, 9);
    }

    /** The end at 1 is behind the REPORT of 0: an exception at NEW is in the range, one at 1 is not. */
    private static void endMoves() {
        AllocationProfiler x = fresh();
        draft(x, LOAD, 0, ARRAY, 1, THROW, 0, PUSH, 50, ADD, 0, RETURN, 0);
        x.range(1, 2, 3);
        x.define();
        x.weave(50);
        rangeIs(x, 0, 1, 3, 4);
        x.start(0, 0, -1);
        x.run(200);
        check.same("the exception of ARRAY: state", x.state(0), 2);
        check.same("the exception of ARRAY", x.result(0), 49);
        x.start(0, 0, 0);
        x.run(200);
        check.same("the exception of THROW: state", x.state(0), 3);
        check.same("the exception of THROW", x.result(0), 1);
    }

    private static void lastEnd() {
        AllocationProfiler x = withType();
        draft(x, NEW, 0, NEW, 0, THROW, 0, RETURN, 0);
        x.range(0, 4, 3);
        x.range(3, 4, 3);
        x.define();
        x.weave(50);
        rangeIs(x, 0, 0, 6, 5);
        rangeIs(x, 1, 5, 6, 5);
    }

    /** A method of 24 instructions with so many that make an object. */
    private static void defineLong(AllocationProfiler x, int makers) {
        for (int i = 0; i < 11; i++) {
            draft(x, i < makers ? NEW : PUSH, 0, POP, 0);
        }
        define(x, PUSH, 0, RETURN, 0);
    }

    private static void longMethods() {
        AllocationProfiler x = withType();
        defineLong(x, 4);
        defineLong(x, 5);
        defineLong(x, 11);
        defineLong(x, 0);
        defineLong(x, 3);
        check.same("sites", x.weave(50), 7);
        check.same("28 are woven", x.length(0, true), 28);
        check.same("the last", x.code(0, 27, 0), RETURN);
        check.same("29 are not", x.length(1, true), 24);
        check.same("its second is no REPORT", x.code(1, 1, 0), POP);
        check.same("35 are not", x.length(2, true), 24);
        check.same("24", x.length(3, true), 24);
        check.same("27 are", x.length(4, true), 27);
        check.same("its first site", x.site(4, 0), 4);
        check.fails("no site", Check.ELEMENT, () -> x.site(1, 0));
    }

    private static void manyMakers() {
        AllocationProfiler x = fresh();
        for (int makers = 12; makers <= 14; makers++) {
            x.draft(PUSH, 0);
            for (int i = 0; i < makers; i++) {
                x.draft(ARRAY, 2);
            }
            define(x, RETURN, 0);
        }
        check.same("sites", x.weave(50), 25);
        check.same("12", x.length(0, true), 26);
        check.same("13", x.length(1, true), 28);
        check.same("14", x.length(2, true), 16);
    }

    private static void staysAsItIs() {
        AllocationProfiler x = withType();
        int[] code = {NEW, 0, POP, 0, NEW, 0, IFZERO, 2, LOAD, 0, RETURN, 0};
        draft(x, code);
        x.range(1, 3, 5);
        x.define();
        defineMaker(x);
        x.exclude(0);
        check.same("sites", x.weave(50), 1);
        codeIs(x, 0, code);
        rangeIs(x, 0, 1, 3, 5);
        check.same("the next method's site", x.site(1, 0), 0);
        x.start(0, 0, 9);
        check.same("steps", x.run(200), 6);
        check.same("result", x.result(0), 9);
        check.same("objects", x.object(0), 2);
        check.same("reported", x.count(0, -1, 0), 0);
        check.same("bytes of all", x.share(0), 0.0);
    }

    private static void lengths() {
        AllocationProfiler x = withMakers(1);
        defineSeven(x);
        x.weave(50);
        check.same("as it was", x.length(0, false), 2);
        check.same("woven", x.length(0, true), 3);
        check.same("as it was, no sites", x.length(1, false), 2);
        check.same("woven, no sites", x.length(1, true), 2);
        AllocationProfiler y = fresh();
        define(y, GOTO, 0);
        y.weave(50);
        check.same("the shortest", y.length(0, true), 1);
    }

    private static void lengthsBefore() {
        AllocationProfiler x = withMakers(1);
        check.same("as it was", x.length(0, false), 2);
        check.same("woven", x.length(0, true), 2);
    }

    private static void lengthOfNone() {
        AllocationProfiler x = withMakers(1);
        refused("length, one method", ARGUMENT, m -> x.length(m, false), LEAST, -1, 1, 2, MOST);
        refused("length, one method, woven", ARGUMENT, m -> x.length(m, true), LEAST, -1, 1, 2, MOST);
        AllocationProfiler y = withMakers(6);
        y.weave(50);
        check.same("the last", y.length(5, true), 3);
        refused("length, six methods", ARGUMENT, m -> y.length(m, false), LEAST, -1, 6, 7, MOST);
        refused("length, six methods, woven", ARGUMENT, m -> y.length(m, true), LEAST, -1, 6, 7, MOST);
    }

    private static void instructions() {
        AllocationProfiler x = withType();
        define(x, PUSH, LEAST, PUSH, MOST, NEW, 0, ADD, -7, RETURN, 0);
        x.weave(50);
        codeIs(x, 0, PUSH, LEAST, PUSH, MOST, NEW, 0, REPORT, 0, ADD, -7, RETURN, 0);
    }

    private static void ranges() {
        AllocationProfiler x = fresh();
        draft(x, PUSH, 0, GOTO, 3, GOTO, 2, RETURN, 0);
        x.range(0, 4, 3);
        x.range(1, 2, 3);
        x.define();
        x.weave(50);
        rangeIs(x, 0, 0, 4, 3);
        rangeIs(x, 1, 1, 2, 3);
    }

    private static void codeBefore() {
        AllocationProfiler x = withType();
        draft(x, NEW, 0, GOTO, 2, RETURN, 0);
        x.range(1, 3, 2);
        x.define();
        codeIs(x, 0, NEW, 0, GOTO, 2, RETURN, 0);
        rangeIs(x, 0, 1, 3, 2);
        check.fails("behind the last", BOUNDS, () -> x.code(0, 3, 0));
        x.weave(50);
        codeIs(x, 0, NEW, 0, REPORT, 0, GOTO, 3, RETURN, 0);
        rangeIs(x, 0, 2, 4, 3);
        check.fails("behind the last", BOUNDS, () -> x.code(0, 4, 0));
    }

    private static void noSuchWhat() {
        AllocationProfiler x = withType();
        draft(x, NEW, 0, RETURN, 0);
        x.range(0, 1, 1);
        x.define();
        for (int time = 0; time < 2; time++) {
            refused("what", ARGUMENT, n -> x.code(0, 0, n), LEAST, -1, 5, 6, MOST);
            refused("what, no such i", ARGUMENT, n -> x.code(0, 9, n), -1, 5);
            for (int what = 0; what <= 4; what++) {
                int part = what;
                refused("method, what " + what, ARGUMENT, n -> x.code(n, 0, part), LEAST, -1, 1, 6, MOST);
                refused("method, no such i", ARGUMENT, n -> x.code(n, 9, part), -1, 1);
            }
            if (time == 0) {
                x.weave(50);
            }
        }
        check.same("what 0", x.code(0, 0, 0), NEW);
        check.same("what 4", x.code(0, 0, 4), 2);
    }

    private static void noSuchPlace() {
        AllocationProfiler x = withMakers(1);
        x.weave(50);
        for (int what = 0; what <= 1; what++) {
            int part = what;
            refused("i, what " + what, BOUNDS, n -> x.code(0, n, part), LEAST, -1, 3, 4, MOST);
        }
        check.same("the first", x.code(0, 0, 0), NEW);
        check.same("the last", x.code(0, 2, 0), RETURN);
        AllocationProfiler y = withType();
        defineLong(y, 4);
        y.weave(50);
        check.same("the 28th", y.code(0, 27, 0), RETURN);
        check.fails("a 29th", BOUNDS, () -> y.code(0, 28, 0));
        check.fails("the argument of a 29th", BOUNDS, () -> y.code(0, 28, 1));
    }

    private static void noSuchRange() {
        AllocationProfiler x = fresh();
        for (int ranges = 0; ranges <= 2; ranges++) {
            draft(x, PUSH, 0, GOTO, 2, RETURN, 0);
            for (int r = 0; r < ranges; r++) {
                x.range(r, 3, 2);
            }
            int m = x.define();
            for (int what = 2; what <= 4; what++) {
                int part = what;
                refused("range, what " + what, BOUNDS, n -> x.code(m, n, part), LEAST, -1, ranges, 3, MOST);
            }
            if (ranges > 0) {
                check.same("the last begin", x.code(m, ranges - 1, 2), ranges - 1);
            }
        }
    }

    private static void sites() {
        AllocationProfiler x = withType();
        for (int i = 0; i < 11; i++) {
            draft(x, i < 4 ? PUSH : NEW, 0, POP, 0);
        }
        draft(x, NEW, 0, RETURN, 0);
        x.define();
        define(x, NEW, 0, POP, 0, NEW, 0, RETURN, 0);
        // The first would have 32 instructions.
        check.same("sites", x.weave(50), 2);
        check.same("the first instruction", x.site(1, 0), 0);
        check.same("as it was, not as woven", x.site(1, 2), 1);
    }

    private static void siteOfNone() {
        AllocationProfiler x = withMakers(2);
        x.weave(50);
        refused("site, method", ARGUMENT, n -> x.site(n, 0), LEAST, -1, 2, 6, MOST);
        // As woven it has an instruction 2, as it was it has none.
        refused("site, instruction", ARGUMENT, n -> x.site(0, n), LEAST, -1, 2, 3, MOST);
        AllocationProfiler y = withType();
        defineLong(y, 4);
        y.weave(50);
        check.fails("the 24th", Check.ELEMENT, () -> y.site(0, 23));
        check.fails("a 25th", ARGUMENT, () -> y.site(0, 24));
        check.fails("a 28th", ARGUMENT, () -> y.site(0, 27));
    }

    private static void noSite() {
        AllocationProfiler x = withMakers(2);
        defineLong(x, 5);
        x.exclude(1);
        x.weave(50);
        check.fails("RETURN", Check.ELEMENT, () -> x.site(0, 1));
        check.fails("NEW, excluded", Check.ELEMENT, () -> x.site(1, 0));
        check.fails("NEW of a method that is too long", Check.ELEMENT, () -> x.site(2, 0));
        check.same("NEW", x.site(0, 0), 0);
    }

    private static void siteBefore() {
        AllocationProfiler x = withMakers(1);
        check.fails("NEW", Check.ELEMENT, () -> x.site(0, 0));
        check.fails("RETURN", Check.ELEMENT, () -> x.site(0, 1));
        check.fails("no instruction", ARGUMENT, () -> x.site(0, 2));
        check.fails("no method", ARGUMENT, () -> x.site(1, 0));
        x.weave(50);
        check.same("NEW, woven", x.site(0, 0), 0);
    }
}
