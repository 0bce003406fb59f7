/** Boundary cases of promises 20 to 23: rate, share, estimate, rounded. */
public final class EstimatesEdgesTest extends Edges {
    public static void main(String[] args) {
        edge(20, "0 at first", EstimatesEdgesTest::rateAtFirst);
        edge(20, "Behind each 16th step", EstimatesEdgesTest::sixteenthStep);
        edge(20, "of all threads together", EstimatesEdgesTest::stepsOfAllThreads);
        edge(20, "each 16th step, from one run() to the next", EstimatesEdgesTest::stepsOfAllRuns);
        edge(20, "a call of run() without a step is none", EstimatesEdgesTest::noSteps);
        edge(20, "every site's RATE", EstimatesEdgesTest::everySite);
        edge(20, "the bytes that it has got since the last such time", EstimatesEdgesTest::bytesSince);
        edge(20, "that it has got: not what was not reported", EstimatesEdgesTest::notReported);
        edge(20, "r * 0.75f + b * 0.25f, as a float", EstimatesEdgesTest::floats);
        edge(20, "r * 0.75f, down to the least floats", EstimatesEdgesTest::leastFloats);
        edge(20, "IllegalArgumentException: there is none", EstimatesEdgesTest::rateOfNone);
        edge(21, "0 when these are 0", EstimatesEdgesTest::shareOfNothing);
        edge(21, "its bytes divided by those of all: none and all", EstimatesEdgesTest::noneAndAll);
        edge(21, "its bytes as a float divided by those of all as a float", EstimatesEdgesTest::sharesAsFloats);
        edge(21, "those of all: sites and threads", EstimatesEdgesTest::sharesOfAll);
        edge(21, "IllegalArgumentException: there is no such site", EstimatesEdgesTest::shareOfNone);
        edge(22, "0 when there are none", EstimatesEdgesTest::noSamples);
        edge(22, "its samples, none and all", EstimatesEdgesTest::noneAndAllSamples);
        edge(22, "times the bytes of all, divided by the samples of all", EstimatesEdgesTest::orderOfDoubles);
        edge(22, "as a double: beyond what an int holds", EstimatesEdgesTest::largeEstimate);
        edge(22, "the samples of all, not those of the entries", EstimatesEdgesTest::samplesWithoutEntry);
        edge(22, "IllegalArgumentException: there is no such site", EstimatesEdgesTest::estimateOfNone);
        edge(23, "plus 0.5, cut off: a half", EstimatesEdgesTest::halves);
        edge(23, "plus 0.5, cut off: below and above a half", EstimatesEdgesTest::besideHalves);
        edge(23, "plus 0.5, cut off: a whole number, and 0", EstimatesEdgesTest::wholes);
        edge(23, "IllegalArgumentException: there is no such site", EstimatesEdgesTest::roundedOfNone);
        finish(20, 21, 22, 23);
    }

    /** Methods 0 and 1 make an array of x bytes, at sites 0 and 1; method 2 goes on for ever. */
    private static AllocationProfiler twoSites(int interval) {
        AllocationProfiler p = fresh();
        define(p, LOAD, 0, ARRAY, 1, RETURN, 0);
        define(p, LOAD, 0, ARRAY, 1, RETURN, 0);
        define(p, GOTO, 0);
        p.weave(interval);
        return p;
    }

    /** A thread makes an object of so many bytes at a site, in three steps. */
    private static void make(AllocationProfiler p, int thread, int site, int bytes) {
        p.start(thread, site, bytes - 16);
        p.run(3);
    }

    private static void rateAtFirst() {
        AllocationProfiler p = twoSites(50);
        check.same("rate(0)", p.rate(0), 0.0);
        check.same("rate(1)", p.rate(1), 0.0);
        make(p, 0, 0, 100000);
        check.same("rate(0) behind 3 steps", p.rate(0), 0.0);
    }

    private static void sixteenthStep() {
        AllocationProfiler p = twoSites(50);
        make(p, 0, 0, 400);
        p.start(0, 2, 0);
        for (int step = 4; step <= 50; step++) {
            check.same("a step", p.run(1), 1);
            float due = step < 16 ? 0f : step < 32 ? 100f : step < 48 ? 75f : 56.25f;
            check.same("rate behind " + step, p.rate(0), due);
        }
    }

    private static void stepsOfAllThreads() {
        AllocationProfiler p = twoSites(50);
        make(p, 2, 0, 400);
        for (int t = 0; t < 3; t++) {
            p.start(t, 2, 0);
        }
        // Five, four and four more steps of the threads.
        p.run(12);
        check.same("behind 15", p.rate(0), 0.0);
        p.run(1);
        check.same("behind 16", p.rate(0), 100.0);
        p.run(15);
        check.same("behind 31", p.rate(0), 100.0);
        p.run(1);
        check.same("behind 32", p.rate(0), 75.0);
    }

    private static void stepsOfAllRuns() {
        AllocationProfiler p = twoSites(50);
        make(p, 0, 0, 400);
        p.start(0, 2, 0);
        p.run(200);
        // 203 steps: 12 times 16, and 11.
        float due = 100f;
        for (int k = 1; k < 12; k++) {
            due = due * 0.75f;
        }
        check.same("behind 203", p.rate(0), due);
        p.run(4);
        check.same("behind 207", p.rate(0), due);
        p.run(1);
        check.same("behind 208", p.rate(0), due * 0.75f);
        p.run(32);
        check.same("behind 240", p.rate(0), due * 0.75f * 0.75f * 0.75f);
    }

    private static void noSteps() {
        AllocationProfiler p = twoSites(50);
        for (int k = 0; k < 5; k++) {
            make(p, 0, 0, 80);
        }
        for (int k = 0; k < 40; k++) {
            check.same("nothing runs", p.run(1 + k), 0);
        }
        p.start(0, 2, 0);
        refused("run", ARGUMENT, p::run, 0, 201);
        check.same("behind 15 steps", p.rate(0), 0.0);
        p.run(1);
        check.same("behind 16 steps", p.rate(0), 100.0);
        // A step that throws is one, too.
        AllocationProfiler q = twoSites(50);
        make(q, 0, 0, 400);
        idleSteps(q, 12);
        check.same("behind 15 steps", q.rate(0), 0.0);
        q.start(0, 0, -1);
        q.run(1);
        check.same("behind 16 steps", q.rate(0), 100.0);
    }

    private static void everySite() {
        AllocationProfiler p = twoSites(50);
        make(p, 0, 0, 400);
        make(p, 1, 1, 80);
        p.start(0, 2, 0);
        p.run(10);
        check.same("rate(0)", p.rate(0), 100.0);
        check.same("rate(1)", p.rate(1), 20.0);
        make(p, 1, 1, 16);
        p.run(13);
        // 16 and 3 and 13 steps: by turns, so that thread 1 has had its three among these.
        check.same("rate(0) fades", p.rate(0), 75.0);
        check.same("rate(1) has got 16", p.rate(1), 19.0);
    }

    /** So many steps that make nothing: each start with -1 is a LOAD and an ARRAY that throws. */
    private static void idleSteps(AllocationProfiler p, int steps) {
        for (int k = 0; k < steps / 2; k++) {
            p.start(0, 0, -1);
            check.same("LOAD, ARRAY", p.run(200), 2);
        }
    }

    private static void bytesSince() {
        AllocationProfiler p = twoSites(50);
        idleSteps(p, 14);
        make(p, 0, 0, 400);
        check.same("its ARRAY was the 16th step", p.rate(0), 100.0);
        p.start(0, 2, 0);
        p.run(15);
        check.same("behind 32 it is not counted again", p.rate(0), 75.0);
        AllocationProfiler q = twoSites(50);
        make(q, 0, 0, 80);
        idleSteps(q, 12);
        make(q, 0, 0, 400);
        check.same("its ARRAY was the 17th step", q.rate(0), 20.0);
        q.start(0, 2, 0);
        q.run(13);
        check.same("behind 31", q.rate(0), 20.0);
        q.run(1);
        check.same("behind 32", q.rate(0), 115.0);
    }

    private static void notReported() {
        AllocationProfiler p = fresh();
        define(p, LOAD, 0, ARRAY, 1, RETURN, 0);
        define(p, LOAD, 0, ARRAY, 1, RETURN, 0);
        p.exclude(0);
        p.weave(50);
        for (int k = 0; k < 5; k++) {
            make(p, 0, 0, 400);
        }
        p.start(0, 1, 384);
        p.run(1);
        check.same("behind 16 steps of which 15 were excluded", p.rate(0), 0.0);
        p.run(2);
        for (int k = 0; k < 7; k++) {
            p.start(0, 1, -1);
            p.run(2);
        }
        check.same("behind 32", p.rate(0), 100.0);
    }

    /** An object of 1512 bytes in each 24 steps: two times 16 steps get one each, and the third time none. */
    private static void floats() {
        AllocationProfiler p = fresh();
        draft(p, LOAD, 0, ARRAY, 1, POP, 0);
        for (int i = 3; i < 24; i++) {
            p.draft(GOTO, (i + 1) % 24);
        }
        p.define();
        p.weave(50);
        p.start(0, 0, 1512 - 16);
        float due = 0f;
        int differ = 0;
        for (int k = 0; k < 150; k++) {
            p.run(16);
            int bytes = k % 3 == 2 ? 0 : 1512;
            float wide = (float) (due * 0.75 + bytes * 0.25);
            due = due * 0.75f + (float) bytes * 0.25f;
            differ += wide == due ? 0 : 1;
            check.same("rate behind " + 16 * (k + 1), p.rate(0), due);
        }
        check.same("doubles would be other numbers", differ > 3 ? 1 : 0, 1);
    }

    private static void leastFloats() {
        AllocationProfiler p = twoSites(50);
        make(p, 0, 0, 1000);
        p.start(0, 2, 0);
        p.run(13);
        float due = 250f;
        for (int k = 0; k < 60; k++) {
            check.same("rate behind " + 16 * (10 * k + 1), p.rate(0), due);
            p.run(160);
            for (int fade = 0; fade < 10; fade++) {
                due = due * 0.75f + 0f * 0.25f;
            }
        }
        check.same("it stays at the second least float", p.rate(0), 2 * Float.MIN_VALUE);
    }

    private static void rateOfNone() {
        AllocationProfiler p = fresh();
        refused("rate, a new object", ARGUMENT, p::rate, LEAST, -1, 0, 1, MOST);
        AllocationProfiler q = twoSites(50);
        refused("rate, two sites", ARGUMENT, q::rate, LEAST, -1, 2, 3, 78, MOST);
        check.same("the last", q.rate(1), 0.0);
    }

    private static void shareOfNothing() {
        AllocationProfiler p = fresh();
        define(p, LOAD, 0, ARRAY, 1, RETURN, 0);
        define(p, LOAD, 0, ARRAY, 1, RETURN, 0);
        p.exclude(0);
        p.weave(50);
        check.same("nothing made", p.share(0), 0.0);
        make(p, 0, 0, 400);
        check.same("nothing reported", p.share(0), 0.0);
        p.start(0, 1, -1);
        p.run(2);
        check.same("thrown", p.share(0), 0.0);
        make(p, 0, 1, 16);
        check.same("16 bytes", p.share(0), 1.0);
    }

    private static void noneAndAll() {
        AllocationProfiler p = twoSites(50);
        make(p, 0, 1, 16);
        check.same("none", p.share(0), 0.0);
        check.same("all", p.share(1), 1.0);
        make(p, 0, 0, 16);
        check.same("half", p.share(0), 0.5);
        check.same("half", p.share(1), 0.5);
    }

    private static void sharesAsFloats() {
        AllocationProfiler p = twoSites(50);
        make(p, 0, 0, 32);
        make(p, 0, 1, 64);
        check.same("a third", p.share(0), 32f / 96f);
        check.same("two thirds", p.share(1), 64f / 96f);
        AllocationProfiler q = twoSites(50);
        for (int k = 0; k < 180; k++) {
            make(q, k % 3, 0, 100000);
        }
        make(q, 0, 1, 24);
        check.same("nearly all", q.share(0), (float) 18000000L / (float) 18000024L);
        check.same("nearly none", q.share(1), (float) 24L / (float) 18000024L);
    }

    private static void sharesOfAll() {
        AllocationProfiler p = fresh();
        for (int m = 0; m < 6; m++) {
            define(p, LOAD, 0, ARRAY, 1, RETURN, 0);
        }
        p.weave(100000);
        for (int site = 0; site < 6; site++) {
            make(p, site % 3, site, 16 + 8 * site);
            make(p, (site + 1) % 3, site, 24);
        }
        // 6 * 40 + 8 * 15 bytes in all.
        for (int site = 0; site < 6; site++) {
            check.same("share of " + site, p.share(site), (float) (40 + 8 * site) / 360f);
        }
    }

    private static void shareOfNone() {
        AllocationProfiler p = fresh();
        refused("share, a new object", ARGUMENT, p::share, LEAST, -1, 0, 1, MOST);
        AllocationProfiler q = twoSites(50);
        make(q, 0, 1, 16);
        refused("share, two sites", ARGUMENT, q::share, LEAST, -1, 2, 3, 78, MOST);
        check.same("the last", q.share(1), 1.0);
    }

    private static void estimateIs(AllocationProfiler p, int site, double due, long rounded) {
        check.same("estimate of " + site, p.estimate(site), due);
        check.same("rounded of " + site, p.rounded(site), rounded);
    }

    private static void noSamples() {
        AllocationProfiler p = twoSites(64);
        estimateIs(p, 0, 0.0, 0);
        make(p, 0, 0, 56);
        make(p, 1, 0, 56);
        make(p, 2, 1, 56);
        estimateIs(p, 0, 0.0, 0);
        estimateIs(p, 1, 0.0, 0);
        make(p, 2, 1, 16);
        estimateIs(p, 1, 184.0, 184);
    }

    private static void noneAndAllSamples() {
        AllocationProfiler p = twoSites(64);
        make(p, 0, 0, 56);
        make(p, 0, 1, 16);
        estimateIs(p, 0, 0.0, 0);
        estimateIs(p, 1, 72.0, 72);
    }

    private static void orderOfDoubles() {
        AllocationProfiler p = twoSites(56);
        make(p, 0, 0, 504);
        make(p, 0, 1, 1088);
        check.same("samples", p.count(0, -1, 2) * 100 + p.count(1, -1, 2), 919);
        estimateIs(p, 0, 9.0 * 1592.0 / 28.0, 512);
        estimateIs(p, 1, 19.0 * 1592.0 / 28.0, 1080);
        check.same("another order would be another number", 9.0 * (1592.0 / 28.0) == 9.0 * 1592.0 / 28.0 ? 1 : 0, 0);
        check.same("and so would a third", 9.0 / 28.0 * 1592.0 == 9.0 * 1592.0 / 28.0 ? 1 : 0, 0);
    }

    /** 350 objects of 100000 bytes at site 0; then 25 more by turns with 25 of 16 bytes at site 1. */
    private static void largeEstimate() {
        AllocationProfiler p = fresh();
        define(p, LOAD, 0, ARRAY, 1, POP, 0, GOTO, 0);
        define(p, LOAD, 0, ARRAY, 1, POP, 0, GOTO, 0);
        p.weave(50);
        p.start(0, 0, 99984);
        for (int k = 0; k < 7; k++) {
            p.run(200);
        }
        p.start(1, 1, 0);
        p.run(200);
        check.same("samples of 0", p.count(0, -1, 2), 750000);
        check.same("samples of 1", p.count(1, -1, 2), 8);
        long bytes = 375L * 100000 + 25 * 16;
        estimateIs(p, 0, 750000.0 * bytes / 750008.0, 37500000);
        estimateIs(p, 1, 8.0 * bytes / 750008.0, 400);
    }

    private static void samplesWithoutEntry() {
        AllocationProfiler p = fresh();
        for (int m = 0; m < 3; m++) {
            for (int i = 0; i < (m < 2 ? 6 : 5); i++) {
                draft(p, PUSH, 40, ARRAY, 1, POP, 0);
            }
            define(p, PUSH, 0, RETURN, 0);
        }
        p.weave(56);
        for (int m = 0; m < 3; m++) {
            p.start(0, m, 0);
            p.run(200);
        }
        check.fails("site 16 has no entry", BOUNDS, () -> p.entry(16, 0));
        estimateIs(p, 16, 56.0, 56);
        estimateIs(p, 0, 56.0, 56);
    }

    private static void estimateOfNone() {
        AllocationProfiler p = fresh();
        refused("estimate, a new object", ARGUMENT, p::estimate, LEAST, -1, 0, 1, MOST);
        AllocationProfiler q = twoSites(50);
        make(q, 0, 1, 56);
        refused("estimate, two sites", ARGUMENT, q::estimate, LEAST, -1, 2, 3, 78, MOST);
        check.same("the last", q.estimate(1), 56.0);
    }

    private static void halves() {
        AllocationProfiler p = twoSites(50);
        make(p, 0, 1, 56);
        make(p, 1, 0, 752);
        estimateIs(p, 1, 50.5, 51);
        estimateIs(p, 0, 757.5, 758);
    }

    private static void besideHalves() {
        AllocationProfiler p = twoSites(56);
        make(p, 0, 0, 56);
        make(p, 0, 1, 360);
        estimateIs(p, 0, 416.0 / 7.0, 59);
        estimateIs(p, 1, 6.0 * 416.0 / 7.0, 357);
        AllocationProfiler q = twoSites(56);
        make(q, 0, 0, 56);
        make(q, 0, 1, 368);
        estimateIs(q, 0, 424.0 / 7.0, 61);
        estimateIs(q, 1, 6.0 * 424.0 / 7.0, 363);
    }

    private static void wholes() {
        AllocationProfiler p = twoSites(56);
        estimateIs(p, 0, 0.0, 0);
        make(p, 0, 0, 56);
        estimateIs(p, 0, 56.0, 56);
        estimateIs(p, 1, 0.0, 0);
        make(p, 0, 1, 56);
        estimateIs(p, 0, 56.0, 56);
    }

    private static void roundedOfNone() {
        AllocationProfiler p = fresh();
        refused("rounded, a new object", ARGUMENT, p::rounded, LEAST, -1, 0, 1, MOST);
        AllocationProfiler q = twoSites(50);
        make(q, 0, 1, 56);
        refused("rounded, two sites", ARGUMENT, q::rounded, LEAST, -1, 2, 3, 78, MOST);
        check.same("the last", q.rounded(1), 56);
    }
}
