/** Promises 18 to 23: count, entry, rate, share, estimate, rounded. */
public final class LedgerTest {
    private static final Check check = new Check();

    public static void main(String[] args) {
        counting();
        wrongCounts();
        sampling();
        countdownsGoOn();
        stacks();
        limitOfEntries();
        wrongEntries();
        rates();
        wrongSites();
        shares();
        estimates();
        halves();
        check.finish();
    }

    /** Method 0 makes an array of x bytes, at site 0; method 1 does the same, at site 1. */
    private static AllocationProfiler twoSites(int interval) {
        AllocationProfiler x = new AllocationProfiler();
        for (int m = 0; m < 2; m++) {
            Check.define(x, Check.LOAD, 0, Check.ARRAY, 1, Check.RETURN, 0);
        }
        x.weave(interval);
        return x;
    }

    /** A thread makes an object of so many bytes at a site of twoSites. */
    private static void make(AllocationProfiler x, int thread, int site, int bytes) {
        x.start(thread, site, bytes - 16);
        x.run(3);
    }

    private static void counting() {
        AllocationProfiler x = twoSites(100);
        make(x, 0, 0, 24);
        make(x, 0, 0, 32);
        make(x, 2, 0, 80);
        make(x, 1, 1, 1000);
        countIs(x, 0, 0, 2, 56);
        countIs(x, 0, 1, 0, 0);
        countIs(x, 0, 2, 1, 80);
        countIs(x, 0, -1, 3, 136);
        countIs(x, 1, 1, 1, 1000);
        countIs(x, 1, -1, 1, 1000);
        check.same("samples", x.count(0, -1, 2), 0);
        check.same("samples", x.count(1, -1, 2), 10);
        x.start(0, 0, -1);
        x.run(3);
        countIs(x, 0, -1, 3, 136);
    }

    private static void countIs(AllocationProfiler x, int site, int thread, long objects, long bytes) {
        check.same("objects of " + site + ", " + thread, x.count(site, thread, 0), objects);
        check.same("bytes of " + site + ", " + thread, x.count(site, thread, 1), bytes);
    }

    private static void wrongCounts() {
        AllocationProfiler x = new AllocationProfiler();
        Check.define(x, Check.LOAD, 0, Check.ARRAY, 1, Check.RETURN, 0);
        check.fails("not woven", Check.ARGUMENT, () -> x.count(0, 0, 0));
        x.weave(50);
        check.same("nothing yet", x.count(0, 0, 0) + x.count(0, -1, 1) + x.count(0, -1, 2), 0);
        for (int thread = 0; thread < 3; thread++) {
            int t = thread;
            check.fails("samples of a thread", Check.ELEMENT, () -> x.count(0, t, 2));
        }
        for (int n : new int[] {-2, 3, Integer.MAX_VALUE, Integer.MIN_VALUE}) {
            check.fails("site " + n, Check.ARGUMENT, () -> x.count(n, -1, 0));
            check.fails("site " + n + ", samples", Check.ARGUMENT, () -> x.count(n, 0, 2));
            check.fails("thread " + n, Check.ARGUMENT, () -> x.count(0, n, 0));
            check.fails("thread " + n + ", samples", Check.ARGUMENT, () -> x.count(0, n, 2));
            check.fails("what " + n, Check.ARGUMENT, () -> x.count(0, 0, n));
        }
        check.fails("site -1", Check.ARGUMENT, () -> x.count(-1, 0, 0));
        check.fails("site 1", Check.ARGUMENT, () -> x.count(1, 0, 0));
        check.fails("what -1", Check.ARGUMENT, () -> x.count(0, 0, -1));
    }

    private static void sampling() {
        AllocationProfiler x = twoSites(96);
        make(x, 0, 0, 88);
        check.same("8 are left", x.count(0, -1, 2), 0);
        check.fails("no entry without a sample", Check.BOUNDS, () -> x.entry(0, 2));
        make(x, 1, 0, 88);
        check.same("each thread has its own countdown", x.count(0, -1, 2), 0);
        make(x, 0, 1, 16);
        check.same("no sample for what was before", x.count(0, -1, 2), 0);
        check.same("but for the site that crosses", x.count(1, -1, 2), 1);
        AllocationProfiler y = twoSites(96);
        make(y, 0, 0, 96);
        check.same("0 is sampled", y.count(0, -1, 2), 1);
        make(y, 0, 0, 96 * 5 - 8);
        check.same("8 above 0", y.count(0, -1, 2), 5);
        make(y, 0, 0, 96 * 2 + 16);
        check.same("8 below 0", y.count(0, -1, 2), 8);
        AllocationProfiler z = twoSites(50);
        make(z, 0, 0, 100000);
        check.same("many at once", z.count(0, -1, 2), 2000);
        check.same("in one entry", z.entry(0, 2), 2000);
    }

    private static void countdownsGoOn() {
        AllocationProfiler x = twoSites(100);
        for (int k = 1; k <= 50; k++) {
            make(x, 1, 0, 16);
            check.same("a start leaves the countdown", x.count(0, -1, 2), 16 * k / 100);
        }
    }

    /** Method 0 makes an object; each further one calls the one before, so that the stack tells the way. */
    private static void stacks() {
        AllocationProfiler x = new AllocationProfiler();
        Check.define(x, Check.PUSH, 48, Check.ARRAY, 1, Check.RETURN, 0);
        for (int m = 1; m < 5; m++) {
            Check.define(x, Check.PUSH, 0, Check.CALL, m - 1, Check.RETURN, 0);
        }
        x.weave(64);
        int[] due = {1, 021, 0321, 04321, 04321};
        for (int m = 0; m < 5; m++) {
            x.start(0, m, 0);
            x.run(200);
            check.same("state", x.state(0), 2);
            check.same("stack", x.entry(Math.min(m, 3), 1), due[m]);
        }
        check.fails("two stacks with the same lowest bits share an entry", Check.BOUNDS, () -> x.entry(4, 1));
        check.same("its samples", x.entry(3, 2), 2);
        check.same("its site", x.entry(3, 0), 0);
        check.same("samples of the site", x.count(0, -1, 2), 5);
    }

    private static void limitOfEntries() {
        AllocationProfiler x = new AllocationProfiler();
        int[] makers = {6, 6, 5};
        for (int m = 0; m < 3; m++) {
            for (int i = 0; i < makers[m]; i++) {
                Check.draft(x, Check.PUSH, 40, Check.ARRAY, 1, Check.POP, 0);
            }
            Check.define(x, Check.PUSH, 0, Check.RETURN, 0);
        }
        check.same("sites", x.weave(56), 17);
        for (int m = 0; m < 3; m++) {
            x.start(0, m, 0);
            x.run(200);
        }
        for (int k = 0; k < 16; k++) {
            check.same("site of entry " + k, x.entry(k, 0), k);
            check.same("stack of entry " + k, x.entry(k, 1), k / 6 + 1);
            check.same("samples of entry " + k, x.entry(k, 2), 1);
        }
        check.same("site 16 has a sample", x.count(16, -1, 2), 1);
        check.fails("but no entry", Check.BOUNDS, () -> x.entry(16, 2));
        for (int m = 0; m < 3; m++) {
            x.start(1, m, 0);
            x.run(200);
        }
        for (int k = 0; k < 16; k++) {
            check.same("an entry that is there counts on", x.entry(k, 2), 2);
        }
        check.same("site 16 has two samples", x.count(16, -1, 2), 2);
        check.fails("and still no entry", Check.BOUNDS, () -> x.entry(16, 2));
    }

    private static void wrongEntries() {
        AllocationProfiler x = twoSites(50);
        check.fails("none", Check.BOUNDS, () -> x.entry(0, 0));
        make(x, 0, 1, 56);
        check.same("site", x.entry(0, 0), 1);
        check.same("stack", x.entry(0, 1), 2);
        check.same("samples", x.entry(0, 2), 1);
        for (int n : new int[] {-1, 3, Integer.MAX_VALUE, Integer.MIN_VALUE}) {
            check.fails("what " + n, Check.ARGUMENT, () -> x.entry(0, n));
            check.fails("what " + n + " of none", Check.ARGUMENT, () -> x.entry(5, n));
            check.fails("entry " + n, Check.BOUNDS, () -> x.entry(n, 0));
        }
        check.fails("entry 1", Check.BOUNDS, () -> x.entry(1, 0));
    }

    private static void rates() {
        AllocationProfiler x = new AllocationProfiler();
        Check.define(x, Check.LOAD, 0, Check.ARRAY, 1, Check.POP, 0, Check.GOTO, 3);
        x.weave(100);
        check.same("at first", x.rate(0), 0.0);
        x.start(0, 0, 1000);
        x.run(15);
        check.same("behind 15 steps", x.rate(0), 0.0);
        x.run(1);
        check.same("behind 16", x.rate(0), 254.0);
        x.run(15);
        check.same("behind 31", x.rate(0), 254.0);
        float due = 254f;
        x.run(1);
        for (int k = 2; k < 240; k++) {
            due = due * 0.75f + 0f * 0.25f;
            check.same("it fades, the " + k, x.rate(0), due);
            x.run(16);
        }
        AllocationProfiler y = twoSites(100);
        make(y, 0, 0, 400);
        make(y, 1, 0, 800);
        make(y, 2, 1, 40);
        make(y, 0, 0, 200);
        make(y, 0, 0, 200);
        y.start(0, 0, 16);
        y.run(1);
        check.same("the 16th step, of all threads", y.rate(0), 400.0);
        check.same("of each site", y.rate(1), 10.0);
        y.run(2);
        for (int k = 0; k < 4; k++) {
            make(y, 0, 1, 24);
        }
        check.same("behind 30", y.rate(0), 400.0);
        y.start(0, 1, 8);
        y.run(2);
        check.same("the object of the 32nd step counts", y.rate(1), (double) (10f * 0.75f + 120f * 0.25f));
        check.same("bytes since then", y.rate(0), (double) (400f * 0.75f + 32f * 0.25f));
    }

    private static void wrongSites() {
        AllocationProfiler x = new AllocationProfiler();
        Check.define(x, Check.LOAD, 0, Check.ARRAY, 1, Check.RETURN, 0);
        siteFails(x, 0);
        x.weave(50);
        check.same("rate", x.rate(0), 0.0);
        check.same("share", x.share(0), 0.0);
        check.same("estimate", x.estimate(0), 0.0);
        check.same("rounded", x.rounded(0), 0);
        for (int n : new int[] {-1, 1, 78, Integer.MAX_VALUE, Integer.MIN_VALUE}) {
            siteFails(x, n);
        }
    }

    private static void siteFails(AllocationProfiler x, int n) {
        check.fails("rate " + n, Check.ARGUMENT, () -> x.rate(n));
        check.fails("share " + n, Check.ARGUMENT, () -> x.share(n));
        check.fails("estimate " + n, Check.ARGUMENT, () -> x.estimate(n));
        check.fails("rounded " + n, Check.ARGUMENT, () -> x.rounded(n));
    }

    private static void shares() {
        AllocationProfiler x = twoSites(100000);
        make(x, 0, 0, 32);
        check.same("all", x.share(0), 1.0);
        check.same("none", x.share(1), 0.0);
        make(x, 1, 1, 64);
        check.same("a third", x.share(0), (double) (32f / 96f));
        check.same("two thirds", x.share(1), (double) (64f / 96f));
        AllocationProfiler y = twoSites(100000);
        for (int k = 0; k < 170; k++) {
            make(y, k % 3, 0, 100000);
        }
        make(y, 0, 1, 24);
        check.same("as floats", y.share(0), (double) ((float) 17000000L / (float) 17000024L));
        check.same("as floats", y.share(1), (double) (24f / (float) 17000024L));
    }

    private static void estimates() {
        AllocationProfiler x = twoSites(100);
        make(x, 0, 0, 48);
        check.same("no samples yet", x.estimate(0), 0.0);
        check.same("no samples yet", x.rounded(0), 0);
        make(x, 0, 1, 64);
        check.same("none of it", x.estimate(0), 0.0);
        check.same("all", x.estimate(1), 112.0);
        make(x, 0, 0, 200);
        check.same("samples", x.count(0, -1, 2), 2);
        check.same("two thirds of 312", x.estimate(0), 2.0 * 312.0 / 3.0);
        check.same("rounded", x.rounded(0), 208);
        make(x, 1, 0, 8 * 41);
        check.same("five sixths of 640", x.estimate(0), 5.0 * 640.0 / 6.0);
        check.same("rounded up", x.rounded(0), 533);
        check.same("a sixth", x.estimate(1), 640.0 / 6.0);
        check.same("rounded", x.rounded(1), 107);
    }

    private static void halves() {
        AllocationProfiler x = twoSites(50);
        make(x, 0, 1, 56);
        make(x, 1, 0, 752);
        check.same("samples", x.count(0, -1, 2) * 10 + x.count(1, -1, 2), 151);
        check.same("a sixteenth of 808", x.estimate(1), 50.5);
        check.same("a half goes up", x.rounded(1), 51);
        check.same("the rest", x.estimate(0), 757.5);
        check.same("a half goes up", x.rounded(0), 758);
    }
}
