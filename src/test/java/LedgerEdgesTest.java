/** Boundary cases of promises 18 and 19: count and entry, with countdowns, samples and stacks. */
public final class LedgerEdgesTest extends Edges {
    public static void main(String[] args) {
        edge(18, "site s has one more object and b bytes more, for this thread", LedgerEdgesTest::byThread);
        edge(18, "-1: of all", LedgerEdgesTest::ofAll);
        edge(18, "samples are not told by threads", LedgerEdgesTest::samplesByThread);
        edge(18, "there is no such site", LedgerEdgesTest::countOfNoSite);
        edge(18, "there is no such thread", LedgerEdgesTest::countOfNoThread);
        edge(18, "there is no such what", LedgerEdgesTest::countOfNoWhat);
        edge(18, "IllegalArgumentException is named before NoSuchElementException", LedgerEdgesTest::countBoth);
        edge(18, "nothing was reported", LedgerEdgesTest::emptyCounts);
        edge(18, "the most that can be reported", LedgerEdgesTest::mostCounts);
        edge(18, "An ARRAY or NEW that throws is not reported", LedgerEdgesTest::thrownIsNotReported);
        edge(18, "as long as that is 0 or less", LedgerEdgesTest::zeroOrLess);
        edge(18, "the site gets a SAMPLE, and the interval is added", LedgerEdgesTest::severalSamples);
        edge(18, "the interval: 50 and 100000", LedgerEdgesTest::leastAndMostInterval);
        edge(18, "the thread's COUNTDOWN", LedgerEdgesTest::countdownOfThread);
        edge(18, "the COUNTDOWN is of the thread, not of the site", LedgerEdgesTest::countdownOverSites);
        edge(18, "the interval, when it was woven: not at each start", LedgerEdgesTest::countdownGoesOn);
        edge(18, "a method that is EXCLUDED takes nothing from it", LedgerEdgesTest::excludedTakesNothing);
        edge(19, "what 0 the site, 1 the stack, 2 how many samples", LedgerEdgesTest::entryParts);
        edge(19, "IllegalArgumentException: no such what", LedgerEdgesTest::entryOfNoWhat);
        edge(19, "IndexOutOfBoundsException: no such entry", LedgerEdgesTest::noSuchEntry);
        edge(19, "IllegalArgumentException is named before IndexOutOfBoundsException", LedgerEdgesTest::entryBoth);
        edge(19, "an entry comes with a sample, not with a report", LedgerEdgesTest::noEntryWithoutSample);
        edge(19, "for each active method, the outermost first", LedgerEdgesTest::stacks);
        edge(19, "its number + 1: the first and the last method", LedgerEdgesTest::stackOfOne);
        edge(19, "of which the lowest 12 bits are kept", LedgerEdgesTest::twelveBits);
        edge(19, "each active method, woven or not", LedgerEdgesTest::stackWithExcluded);
        edge(19, "each active method: those that have ended are not", LedgerEdgesTest::stackBehindCalls);
        edge(19, "For each site and stack", LedgerEdgesTest::siteAndStack);
        edge(19, "for each site and stack, whatever the thread", LedgerEdgesTest::entriesOfThreads);
        edge(19, "entries are numbered as they come", LedgerEdgesTest::orderOfEntries);
        edge(19, "at most 16", LedgerEdgesTest::sixteenEntries);
        edge(19, "others are not counted there", LedgerEdgesTest::seventeenth);
        finish(18, 19);
    }

    /** Methods 0 and 1 make an array of x bytes, at sites 0 and 1. */
    private static AllocationProfiler twoSites(int interval) {
        AllocationProfiler p = fresh();
        for (int m = 0; m < 2; m++) {
            define(p, LOAD, 0, ARRAY, 1, RETURN, 0);
        }
        p.weave(interval);
        return p;
    }

    /** A thread makes an object of so many bytes at a site of twoSites. */
    private static void make(AllocationProfiler p, int thread, int site, int bytes) {
        p.start(thread, site, bytes - 16);
        p.run(3);
    }

    private static void countIs(AllocationProfiler p, int site, int thread, long objects, long bytes) {
        check.same("objects of site " + site + ", thread " + thread, p.count(site, thread, 0), objects);
        check.same("bytes of site " + site + ", thread " + thread, p.count(site, thread, 1), bytes);
    }

    private static void samplesAre(AllocationProfiler p, int site, long due) {
        check.same("samples of site " + site, p.count(site, -1, 2), due);
    }

    private static void byThread() {
        AllocationProfiler p = twoSites(100000);
        make(p, 0, 0, 16);
        make(p, 2, 0, 24);
        make(p, 2, 0, 32);
        make(p, 1, 1, 40);
        countIs(p, 0, 0, 1, 16);
        countIs(p, 0, 1, 0, 0);
        countIs(p, 0, 2, 2, 56);
        countIs(p, 1, 0, 0, 0);
        countIs(p, 1, 1, 1, 40);
        countIs(p, 1, 2, 0, 0);
    }

    private static void ofAll() {
        AllocationProfiler p = twoSites(50);
        for (int t = 0; t < 3; t++) {
            make(p, t, 0, 56 + 8 * t);
            countIs(p, 0, -1, t + 1, new int[] {56, 120, 192}[t]);
            samplesAre(p, 0, t + 1);
        }
        countIs(p, 1, -1, 0, 0);
    }

    private static void samplesByThread() {
        AllocationProfiler p = twoSites(50);
        refused("samples of thread", Check.ELEMENT, t -> p.count(0, t, 2), 0, 1, 2);
        make(p, 1, 1, 56);
        refused("samples of thread", Check.ELEMENT, t -> p.count(1, t, 2), 0, 1, 2);
        samplesAre(p, 1, 1);
        check.same("bytes of a thread", p.count(1, 1, 1), 56);
    }

    private static void countOfNoSite() {
        AllocationProfiler p = fresh();
        refused("count, a new object", ARGUMENT, s -> p.count(s, -1, 0), -1, 0, 1);
        define(p, PUSH, 0, ARRAY, 1, RETURN, 0);
        refused("count, not woven", ARGUMENT, s -> p.count(s, -1, 0), -1, 0, 1);
        AllocationProfiler q = twoSites(50);
        for (int what = 0; what <= 2; what++) {
            int part = what;
            refused("count, two sites", ARGUMENT, s -> q.count(s, -1, part), LEAST, -1, 2, 3, 77, 78, MOST);
        }
        countIs(q, 1, -1, 0, 0);
    }

    private static void countOfNoThread() {
        AllocationProfiler p = twoSites(50);
        for (int what = 0; what <= 1; what++) {
            int part = what;
            refused("count, what " + what, ARGUMENT, t -> p.count(0, t, part), LEAST, -3, -2, 3, 4, MOST);
            check.same("-1", p.count(0, -1, what), 0);
            check.same("0", p.count(0, 0, what), 0);
            check.same("2", p.count(0, 2, what), 0);
        }
    }

    private static void countOfNoWhat() {
        AllocationProfiler p = twoSites(50);
        for (int thread = -1; thread <= 2; thread++) {
            int t = thread;
            refused("what, thread " + t, ARGUMENT, what -> p.count(0, t, what), LEAST, -2, -1, 3, 4, MOST);
        }
        check.same("2", p.count(0, -1, 2), 0);
    }

    private static void countBoth() {
        AllocationProfiler p = twoSites(50);
        refused("samples of no thread", ARGUMENT, t -> p.count(0, t, 2), LEAST, -2, 3, MOST);
        refused("samples of a thread, no site", ARGUMENT, s -> p.count(s, 0, 2), -1, 2);
    }

    private static void emptyCounts() {
        AllocationProfiler p = twoSites(50);
        for (int site = 0; site < 2; site++) {
            for (int thread = -1; thread < 3; thread++) {
                countIs(p, site, thread, 0, 0);
            }
            samplesAre(p, site, 0);
        }
    }

    /** 400 objects of 100000 bytes, with a sample for each 50 bytes: 40 million, and 800 thousand. */
    private static void mostCounts() {
        AllocationProfiler p = fresh();
        define(p, LOAD, 0, ARRAY, 1, POP, 0, GOTO, 0);
        p.weave(50);
        p.start(0, 0, 99984);
        for (int k = 0; k < 8; k++) {
            p.run(200);
        }
        countIs(p, 0, 0, 400, 40000000);
        countIs(p, 0, -1, 400, 40000000);
        samplesAre(p, 0, 800000);
        check.same("samples of the entry", p.entry(0, 2), 800000);
        check.same("share", p.share(0), 1.0);
        check.same("estimate", p.estimate(0), 40000000.0);
        check.same("rounded", p.rounded(0), 40000000);
        p.run(200);
        countIs(p, 0, -1, 400, 40000000);
        samplesAre(p, 0, 800000);
    }

    private static void thrownIsNotReported() {
        AllocationProfiler p = twoSites(50);
        p.start(0, 0, -1);
        p.run(3);
        p.start(0, 0, 99985);
        p.run(3);
        countIs(p, 0, -1, 0, 0);
        samplesAre(p, 0, 0);
        check.fails("no entry", BOUNDS, () -> p.entry(0, 0));
        // Nothing was taken from the countdown: 48 leave 2.
        make(p, 0, 0, 48);
        samplesAre(p, 0, 0);
        make(p, 0, 0, 100000);
        countIs(p, 0, 0, 2, 100048);
    }

    private static void zeroOrLess() {
        int[] intervals = {55, 56, 57, 63, 64, 65};
        int[] due = {1, 1, 0, 0, 0, 0};
        for (int k = 0; k < 6; k++) {
            AllocationProfiler p = twoSites(intervals[k]);
            make(p, 0, 0, 56);
            check.same("56 bytes, interval " + intervals[k], p.count(0, -1, 2), due[k]);
        }
        // 57 - 56 leaves 1, and 16 more make it less than 0; 72 - 56 leaves 16, and 16 more make it 0.
        for (int interval : new int[] {57, 72, 73}) {
            AllocationProfiler p = twoSites(interval);
            make(p, 0, 0, 56);
            make(p, 0, 0, 16);
            check.same("56 and 16 bytes, interval " + interval, p.count(0, -1, 2), interval == 73 ? 0 : 1);
        }
    }

    private static void severalSamples() {
        AllocationProfiler p = twoSites(56);
        // 112 takes 56 to -56, and two samples bring it back to 56.
        make(p, 0, 0, 112);
        samplesAre(p, 0, 2);
        make(p, 0, 0, 48);
        samplesAre(p, 0, 2);
        make(p, 0, 0, 16);
        // 8 - 16 is -8, and one sample brings it to 48.
        samplesAre(p, 0, 3);
        make(p, 0, 0, 40);
        samplesAre(p, 0, 3);
        make(p, 0, 0, 16);
        samplesAre(p, 0, 4);
        // 8 - 16 was -8 again: 48. Then 48 - 104 is -56: two, and 56 again.
        make(p, 0, 0, 104);
        samplesAre(p, 0, 6);
        make(p, 0, 0, 168);
        samplesAre(p, 0, 9);
        // 56 - 160 is -104: two, and 8.
        make(p, 0, 0, 160);
        samplesAre(p, 0, 11);
        make(p, 0, 0, 16);
        samplesAre(p, 0, 12);
    }

    private static void leastAndMostInterval() {
        AllocationProfiler p = twoSites(50);
        make(p, 0, 0, 48);
        samplesAre(p, 0, 0);
        make(p, 0, 0, 16);
        samplesAre(p, 0, 1);
        make(p, 1, 1, 100000);
        samplesAre(p, 1, 2000);
        AllocationProfiler q = twoSites(100000);
        make(q, 0, 0, 99984);
        samplesAre(q, 0, 0);
        make(q, 0, 0, 16);
        samplesAre(q, 0, 1);
        make(q, 1, 1, 100000);
        samplesAre(q, 1, 1);
        make(q, 0, 0, 99992);
        samplesAre(q, 0, 1);
    }

    private static void countdownOfThread() {
        AllocationProfiler p = twoSites(64);
        for (int t = 0; t < 3; t++) {
            make(p, t, 0, 56);
            samplesAre(p, 0, 0);
        }
        for (int t = 2; t >= 0; t--) {
            make(p, t, 0, 16);
            samplesAre(p, 0, 3 - t);
        }
    }

    private static void countdownOverSites() {
        AllocationProfiler p = twoSites(64);
        make(p, 0, 0, 48);
        make(p, 0, 1, 16);
        samplesAre(p, 0, 0);
        samplesAre(p, 1, 1);
        make(p, 0, 1, 48);
        make(p, 0, 0, 16);
        samplesAre(p, 0, 1);
        samplesAre(p, 1, 1);
    }

    private static void countdownGoesOn() {
        AllocationProfiler p = twoSites(50);
        for (int k = 1; k <= 40; k++) {
            make(p, 1, 0, 16);
            check.same(k + " times 16 bytes, interval 50", p.count(0, -1, 2), 16 * k / 50);
        }
    }

    private static void excludedTakesNothing() {
        AllocationProfiler p = fresh();
        define(p, LOAD, 0, ARRAY, 1, RETURN, 0);
        define(p, LOAD, 0, ARRAY, 1, RETURN, 0);
        p.exclude(0);
        p.weave(64);
        p.start(0, 0, 100);
        p.run(200);
        p.start(0, 1, 40);
        p.run(200);
        samplesAre(p, 0, 0);
        countIs(p, 0, -1, 1, 56);
        check.same("objects", p.object(0), 2);
    }

    private static void entryIs(AllocationProfiler p, int k, int site, int stack, int samples) {
        check.same("site of entry " + k, p.entry(k, 0), site);
        check.same("stack of entry " + k, p.entry(k, 1), stack);
        check.same("samples of entry " + k, p.entry(k, 2), samples);
    }

    private static void entryParts() {
        AllocationProfiler p = twoSites(50);
        make(p, 0, 1, 152);
        entryIs(p, 0, 1, 2, 3);
    }

    private static void entryOfNoWhat() {
        AllocationProfiler p = twoSites(50);
        make(p, 0, 0, 56);
        refused("what", ARGUMENT, what -> p.entry(0, what), LEAST, -1, 3, 4, MOST);
        entryIs(p, 0, 0, 1, 1);
    }

    private static void noSuchEntry() {
        AllocationProfiler p = fresh();
        refused("entry, a new object", BOUNDS, k -> p.entry(k, 0), LEAST, -1, 0, 1, MOST);
        AllocationProfiler q = twoSites(50);
        refused("entry, none", BOUNDS, k -> q.entry(k, 0), LEAST, -1, 0, 1, 16, MOST);
        make(q, 0, 0, 56);
        for (int what = 0; what <= 2; what++) {
            int part = what;
            refused("entry, one", BOUNDS, k -> q.entry(k, part), LEAST, -1, 1, 2, 15, 16, MOST);
        }
        make(q, 0, 1, 56);
        entryIs(q, 1, 1, 2, 1);
        refused("entry, two", BOUNDS, k -> q.entry(k, 2), -1, 2);
    }

    private static void entryBoth() {
        AllocationProfiler p = twoSites(50);
        refused("what, no entry", ARGUMENT, what -> p.entry(0, what), -1, 3);
        refused("what, entry -1", ARGUMENT, what -> p.entry(-1, what), -1, 3);
    }

    private static void noEntryWithoutSample() {
        AllocationProfiler p = twoSites(64);
        make(p, 0, 0, 56);
        check.fails("8 are left", BOUNDS, () -> p.entry(0, 0));
        make(p, 0, 1, 16);
        entryIs(p, 0, 1, 2, 1);
        check.fails("site 0 has none", BOUNDS, () -> p.entry(1, 0));
    }

    /** Method 0 makes an object of 64 bytes, a sample each time; methods 1 .. 5 call the one before. */
    private static AllocationProfiler chain() {
        AllocationProfiler p = fresh();
        define(p, PUSH, 48, ARRAY, 1, RETURN, 0);
        for (int m = 1; m < 6; m++) {
            define(p, PUSH, 0, CALL, m - 1, RETURN, 0);
        }
        p.weave(64);
        return p;
    }

    private static void runMethod(AllocationProfiler p, int method) {
        p.start(0, method, 0);
        p.run(200);
    }

    private static void stacks() {
        AllocationProfiler p = chain();
        int[] due = {1, 8 * 2 + 1, 64 * 3 + 8 * 2 + 1, 512 * 4 + 64 * 3 + 8 * 2 + 1};
        for (int m = 0; m < 4; m++) {
            runMethod(p, m);
            entryIs(p, m, 0, due[m], 1);
        }
    }

    private static void stackOfOne() {
        AllocationProfiler p = fresh();
        for (int m = 0; m < 6; m++) {
            define(p, PUSH, 48, ARRAY, 1, RETURN, 0);
        }
        p.weave(64);
        runMethod(p, 5);
        runMethod(p, 0);
        entryIs(p, 0, 5, 6, 1);
        entryIs(p, 1, 0, 1, 1);
    }

    /** Five active methods need 15 bits: the outermost is cut off, so that other outermost ones are the same. */
    private static void twelveBits() {
        AllocationProfiler p = chain();
        runMethod(p, 4);
        entryIs(p, 0, 0, 04321, 1);
        runMethod(p, 3);
        entryIs(p, 0, 0, 04321, 2);
        check.fails("one entry", BOUNDS, () -> p.entry(1, 0));
        AllocationProfiler q = fresh();
        define(q, LOAD, 0, IFZERO, 7, LOAD, 0, PUSH, 1, SUB, 0, CALL, 0, RETURN, 0, PUSH, 48, ARRAY, 1, RETURN, 0);
        q.weave(64);
        int[] due = {01, 011, 0111, 01111, 01111};
        for (int x = 0; x < 5; x++) {
            q.start(0, 0, x);
            q.run(200);
            check.same("stack of itself, " + (x + 1) + " active", q.entry(x < 4 ? x : 3, 1), due[x]);
        }
        check.same("samples", q.entry(3, 2), 2);
        // Method 5 five times is 66666 in octal, of which four digits are kept.
        AllocationProfiler r = fresh();
        for (int m = 0; m < 5; m++) {
            defineSeven(r);
        }
        define(r, LOAD, 0, IFZERO, 7, LOAD, 0, PUSH, 1, SUB, 0, CALL, 5, RETURN, 0, PUSH, 48, ARRAY, 1, RETURN, 0);
        r.weave(64);
        for (int x = 3; x < 5; x++) {
            r.start(0, 5, x);
            r.run(200);
            entryIs(r, 0, 0, 06666, x - 2);
        }
    }

    private static void stackWithExcluded() {
        AllocationProfiler p = fresh();
        define(p, PUSH, 48, ARRAY, 1, RETURN, 0);
        define(p, PUSH, 48, ARRAY, 1, CALL, 0, RETURN, 0);
        p.exclude(1);
        p.weave(64);
        runMethod(p, 1);
        entryIs(p, 0, 0, 021, 1);
        check.fails("one entry", BOUNDS, () -> p.entry(1, 0));
    }

    private static void stackBehindCalls() {
        AllocationProfiler p = fresh();
        define(p, PUSH, 48, ARRAY, 1, RETURN, 0);
        define(p, PUSH, 48, ARRAY, 1, THROW, 0);
        draft(p, PUSH, 0, CALL, 0, CALL, 1, RETURN, 0, PUSH, 48, ARRAY, 1, RETURN, 0);
        p.range(2, 3, 4);
        p.define();
        p.weave(64);
        runMethod(p, 2);
        entryIs(p, 0, 0, 031, 1);
        entryIs(p, 1, 1, 032, 1);
        entryIs(p, 2, 2, 03, 1);
    }

    private static void siteAndStack() {
        AllocationProfiler p = fresh();
        // Two sites in one method, and another way to them.
        define(p, PUSH, 48, ARRAY, 1, POP, 0, PUSH, 48, ARRAY, 1, RETURN, 0);
        define(p, PUSH, 0, CALL, 0, RETURN, 0);
        p.weave(64);
        for (int time = 1; time <= 2; time++) {
            runMethod(p, 0);
            runMethod(p, 1);
            entryIs(p, 0, 0, 1, time);
            entryIs(p, 1, 1, 1, time);
            entryIs(p, 2, 0, 021, time);
            entryIs(p, 3, 1, 021, time);
            check.fails("four entries", BOUNDS, () -> p.entry(4, 0));
        }
        samplesAre(p, 0, 4);
        samplesAre(p, 1, 4);
    }

    private static void entriesOfThreads() {
        AllocationProfiler p = twoSites(56);
        for (int t = 0; t < 3; t++) {
            make(p, t, 0, 56);
        }
        entryIs(p, 0, 0, 1, 3);
        check.fails("one entry", BOUNDS, () -> p.entry(1, 0));
    }

    private static void orderOfEntries() {
        AllocationProfiler p = chain();
        runMethod(p, 2);
        runMethod(p, 0);
        runMethod(p, 2);
        runMethod(p, 1);
        entryIs(p, 0, 0, 0321, 2);
        entryIs(p, 1, 0, 1, 1);
        entryIs(p, 2, 0, 021, 1);
    }

    /** Sites 0 .. 5, 6 .. 11, 12 .. 16 in methods 0, 1, 2; each makes an object of 56 bytes. */
    private static AllocationProfiler seventeenSites() {
        AllocationProfiler p = fresh();
        for (int m = 0; m < 3; m++) {
            for (int i = 0; i < (m < 2 ? 6 : 5); i++) {
                draft(p, PUSH, 40, ARRAY, 1, POP, 0);
            }
            define(p, PUSH, 0, RETURN, 0);
        }
        check.same("sites", p.weave(56), 17);
        return p;
    }

    private static void sixteenEntries() {
        AllocationProfiler p = seventeenSites();
        for (int m = 0; m < 3; m++) {
            runMethod(p, m);
        }
        for (int k = 0; k < 16; k++) {
            entryIs(p, k, k, k / 6 + 1, 1);
        }
        refused("entry", BOUNDS, k -> p.entry(k, 0), -1, 16, 17);
    }

    private static void seventeenth() {
        AllocationProfiler p = seventeenSites();
        // Site 16 is the last to come, and then it comes with others again.
        for (int m = 0; m < 3; m++) {
            runMethod(p, m);
        }
        samplesAre(p, 16, 1);
        runMethod(p, 2);
        runMethod(p, 0);
        samplesAre(p, 16, 2);
        countIs(p, 16, 0, 2, 112);
        check.same("an entry that was there counts on", p.entry(0, 2), 2);
        check.same("the 16th counts on", p.entry(15, 2), 2);
        check.same("the 16th is as it was", p.entry(15, 0), 15);
        check.same("another one", p.entry(6, 2), 1);
        refused("entry", BOUNDS, k -> p.entry(k, 2), 16);
        // In another order it is site 5 that has none.
        AllocationProfiler q = seventeenSites();
        for (int m = 2; m >= 0; m--) {
            runMethod(q, m);
        }
        entryIs(q, 0, 12, 3, 1);
        entryIs(q, 15, 4, 1, 1);
        samplesAre(q, 5, 1);
        refused("entry", BOUNDS, k -> q.entry(k, 2), 16);
    }
}
