import java.util.ArrayDeque;
import java.util.ArrayList;
import java.util.Deque;
import java.util.HashSet;
import java.util.List;
import java.util.NoSuchElementException;
import java.util.Set;

/**
 * The document once more, written another way: it runs the original methods and asks at each object for
 * the site, where the program runs woven ones; it samples by a loop, and follows stack depths by recursion.
 */
final class Model {
    private static final class Body {
        final List<int[]> code = new ArrayList<>();
        final List<int[]> ranges = new ArrayList<>();
        boolean excluded;
        int firstSite = -1;

        boolean makes(int i) {
            return code.get(i)[0] == Check.NEW || code.get(i)[0] == Check.ARRAY;
        }

        int makersBefore(int i) {
            int n = 0;
            for (int k = 0; k < i; k++) {
                n += makes(k) ? 1 : 0;
            }
            return n;
        }

        int moved(int i) {
            return firstSite < 0 ? i : i + makersBefore(i);
        }

        /** The woven instructions. */
        List<int[]> woven() {
            List<int[]> all = new ArrayList<>();
            for (int i = 0; i < code.size(); i++) {
                int[] c = code.get(i);
                boolean jump = c[0] >= Check.GOTO && c[0] <= Check.IFNEG;
                all.add(new int[] {c[0], jump ? moved(c[1]) : c[1]});
                if (firstSite >= 0 && makes(i)) {
                    all.add(new int[] {Check.REPORT, firstSite + makersBefore(i)});
                }
            }
            return all;
        }
    }

    private static final class Active {
        final int method;
        int at;
        final int[] locals = new int[4];
        final Deque<Integer> stack = new ArrayDeque<>();

        Active(int method, int x) {
            this.method = method;
            locals[0] = x;
        }
    }

    private static final class Worker {
        final List<Active> actives = new ArrayList<>();
        int state;
        int result;
        int countdown;

        Active last() {
            return actives.get(actives.size() - 1);
        }
    }

    private final List<int[]> types = new ArrayList<>();
    private final List<Body> bodies = new ArrayList<>();
    private Body draft = new Body();
    private int fault = -1;
    private int interval;
    private boolean woven;
    private int sites;
    private final Worker[] workers = {new Worker(), new Worker(), new Worker()};
    private int last = 2;
    private int steps;
    private int caught;
    private final List<Integer> objects = new ArrayList<>();
    private final long[][][] counts = new long[100][3][2];
    private final long[] samples = new long[100];
    private final long[] since = new long[100];
    private final float[] rates = new float[100];
    private final List<int[]> entries = new ArrayList<>();

    private static void argument(boolean right) {
        if (!right) {
            throw new IllegalArgumentException();
        }
    }

    private static void state(boolean right) {
        if (!right) {
            throw new IllegalStateException();
        }
    }

    private static void element(boolean right) {
        if (!right) {
            throw new NoSuchElementException();
        }
    }

    private static void bounds(boolean right) {
        if (!right) {
            throw new IndexOutOfBoundsException();
        }
    }

    private static boolean in(int n, int least, int most) {
        return n >= least && n <= most;
    }

    int type(int parent, int longs, int ints, int chars, int bytes) {
        argument(in(parent, -1, types.size() - 1));
        int[] fields = {longs, ints, chars, bytes};
        int[] widths = {8, 4, 2, 1};
        for (int f : fields) {
            argument(in(f, 0, 3));
        }
        state(types.size() < 6 && !woven);
        int end = parent < 0 ? 12 : types.get(parent)[0];
        for (int k = 0; k < 4; k++) {
            while (fields[k] > 0 && end % widths[k] != 0) {
                end++;
            }
            end += fields[k] * widths[k];
        }
        types.add(new int[] {end});
        return types.size() - 1;
    }

    int size(int type) {
        argument(in(type, 0, types.size() - 1));
        int size = types.get(type)[0];
        while (size % 8 != 0) {
            size++;
        }
        return size;
    }

    int draft(int operation, int a) {
        argument(in(operation, 0, 15));
        state(draft.code.size() < 24);
        draft.code.add(new int[] {operation, a});
        return draft.code.size() - 1;
    }

    int range(int begin, int end, int handler) {
        state(draft.ranges.size() < 2);
        draft.ranges.add(new int[] {begin, end, handler});
        return draft.ranges.size();
    }

    int define() {
        Body body = draft;
        draft = new Body();
        fault = -1;
        state(bodies.size() < 6 && !woven);
        fault = place(body);
        argument(fault == -1);
        bodies.add(body);
        return bodies.size() - 1;
    }

    int fault() {
        return fault;
    }

    private int place(Body body) {
        int n = body.code.size();
        if (n == 0) {
            return 0;
        }
        for (int i = 0; i < n; i++) {
            int a = body.code.get(i)[1];
            boolean right = switch (body.code.get(i)[0]) {
                case Check.LOAD, Check.STORE -> in(a, 0, 3);
                case Check.GOTO, Check.IFZERO, Check.IFNEG -> in(a, 0, n - 1);
                case Check.NEW -> in(a, 0, types.size() - 1);
                case Check.ARRAY -> a == 1 || a == 2 || a == 4 || a == 8;
                case Check.CALL -> in(a, 0, bodies.size());
                default -> true;
            };
            if (!right) {
                return i;
            }
        }
        int end = body.code.get(n - 1)[0];
        if (end != Check.GOTO && end != Check.RETURN && end != Check.THROW) {
            return n - 1;
        }
        for (int r = 0; r < body.ranges.size(); r++) {
            int[] q = body.ranges.get(r);
            if (q[0] < 0 || q[0] >= q[1] || q[1] > n || !in(q[2], 0, n - 1)) {
                return 24 + r;
            }
        }
        Set<Integer> reached = new HashSet<>();
        reach(body, 0, 0, reached);
        for (int i = 0; i < n; i++) {
            int different = 0;
            for (int d = 0; d < 7; d++) {
                if (reached.contains(i * 10 + d)) {
                    different++;
                    if (d > 5 || d < takes(body.code.get(i)[0])) {
                        return i;
                    }
                }
            }
            if (different > 1) {
                return i;
            }
        }
        return -1;
    }

    private static int takes(int operation) {
        return switch (operation) {
            case Check.ADD, Check.SUB, Check.MUL -> 2;
            case Check.PUSH, Check.LOAD, Check.GOTO, Check.NEW -> 0;
            default -> 1;
        };
    }

    private static void reach(Body body, int i, int d, Set<Integer> reached) {
        if (!reached.add(i * 10 + d)) {
            return;
        }
        int[] c = body.code.get(i);
        if (d > 5 || d < takes(c[0])) {
            return;
        }
        switch (c[0]) {
            case Check.PUSH, Check.LOAD, Check.NEW, Check.DUP -> reach(body, i + 1, d + 1, reached);
            case Check.STORE, Check.POP, Check.ADD, Check.SUB, Check.MUL -> reach(body, i + 1, d - 1, reached);
            case Check.ARRAY, Check.CALL -> reach(body, i + 1, d, reached);
            case Check.GOTO -> reach(body, c[1], d, reached);
            case Check.IFZERO, Check.IFNEG -> {
                reach(body, i + 1, d - 1, reached);
                reach(body, c[1], d - 1, reached);
            }
            default -> { }
        }
        for (int[] q : body.ranges) {
            if (i >= q[0] && i < q[1]) {
                reach(body, q[2], 1, reached);
            }
        }
    }

    void exclude(int method) {
        argument(in(method, 0, bodies.size() - 1));
        state(!woven);
        bodies.get(method).excluded = true;
    }

    int weave(int every) {
        argument(in(every, 50, 100000));
        state(!woven && !bodies.isEmpty());
        woven = true;
        interval = every;
        for (Worker w : workers) {
            w.countdown = every;
        }
        for (Body body : bodies) {
            int makers = body.makersBefore(body.code.size());
            if (!body.excluded && body.code.size() + makers <= 28) {
                body.firstSite = sites;
                sites += makers;
            }
        }
        return sites;
    }

    int length(int method, boolean asWoven) {
        argument(in(method, 0, bodies.size() - 1));
        Body body = bodies.get(method);
        return asWoven ? body.woven().size() : body.code.size();
    }

    int code(int method, int i, int what) {
        argument(in(method, 0, bodies.size() - 1) && in(what, 0, 4));
        Body body = bodies.get(method);
        if (what < 2) {
            bounds(in(i, 0, body.woven().size() - 1));
            return body.woven().get(i)[what];
        }
        bounds(in(i, 0, body.ranges.size() - 1));
        return body.moved(body.ranges.get(i)[what - 2]);
    }

    int site(int method, int i) {
        argument(in(method, 0, bodies.size() - 1) && in(i, 0, bodies.get(method).code.size() - 1));
        int site = siteAt(bodies.get(method), i);
        element(site >= 0);
        return site;
    }

    private static int siteAt(Body body, int i) {
        return body.firstSite < 0 || !body.makes(i) ? -1 : body.firstSite + body.makersBefore(i);
    }

    void start(int thread, int method, int x) {
        argument(in(thread, 0, 2) && in(method, 0, bodies.size() - 1));
        state(woven && workers[thread].state != 1);
        workers[thread].state = 1;
        workers[thread].actives.clear();
        workers[thread].actives.add(new Active(method, x));
    }

    int run(int most) {
        argument(in(most, 1, 200));
        for (int done = 0; done < most; done++) {
            int next = -1;
            for (int k = 3; k >= 1; k--) {
                if (workers[(last + k) % 3].state == 1) {
                    next = (last + k) % 3;
                }
            }
            if (next < 0) {
                return done;
            }
            last = next;
            step(next);
            steps++;
            if (steps % 16 == 0) {
                for (int s = 0; s < sites; s++) {
                    rates[s] = rates[s] * 0.75f + since[s] * 0.25f;
                    since[s] = 0;
                }
            }
        }
        return most;
    }

    private void step(int thread) {
        Worker w = workers[thread];
        Active f = w.last();
        int[] c = bodies.get(f.method).code.get(f.at);
        switch (c[0]) {
            case Check.PUSH -> f.stack.push(c[1]);
            case Check.LOAD -> f.stack.push(f.locals[c[1]]);
            case Check.STORE -> f.locals[c[1]] = f.stack.pop();
            case Check.DUP -> f.stack.push(f.stack.peek());
            case Check.POP -> f.stack.pop();
            case Check.ADD -> f.stack.push(f.stack.pop() + f.stack.pop());
            case Check.SUB -> f.stack.push(-(f.stack.pop() - f.stack.pop()));
            case Check.MUL -> f.stack.push(f.stack.pop() * f.stack.pop());
            case Check.GOTO -> f.at = c[1] - 1;
            case Check.IFZERO -> f.at = f.stack.pop() == 0 ? c[1] - 1 : f.at;
            case Check.IFNEG -> f.at = f.stack.pop() < 0 ? c[1] - 1 : f.at;
            default -> {
                special(thread, w, f, c);
                return;
            }
        }
        f.at++;
    }

    private void special(int thread, Worker w, Active f, int[] c) {
        switch (c[0]) {
            case Check.NEW -> make(thread, w, f, size(c[1]));
            case Check.ARRAY -> {
                long n = f.stack.pop();
                make(thread, w, f, n < 0 ? 1L << 40 : (16 + n * c[1] + 7) / 8 * 8);
            }
            case Check.CALL -> {
                int x = f.stack.pop();
                if (w.actives.size() == 5) {
                    raise(w, -2);
                } else {
                    w.actives.add(new Active(c[1], x));
                }
            }
            case Check.RETURN -> {
                int x = f.stack.pop();
                w.actives.remove(w.actives.size() - 1);
                if (w.actives.isEmpty()) {
                    w.state = 2;
                    w.result = x;
                } else {
                    w.last().stack.push(x);
                    w.last().at++;
                }
            }
            default -> raise(w, f.stack.pop());
        }
    }

    private void make(int thread, Worker w, Active f, long size) {
        if (objects.size() == 400 || size > 100000) {
            raise(w, -1);
            return;
        }
        objects.add((int) size);
        f.stack.push(objects.size());
        int site = siteAt(bodies.get(f.method), f.at);
        f.at++;
        if (site < 0) {
            return;
        }
        counts[site][thread][0]++;
        counts[site][thread][1] += size;
        since[site] += size;
        w.countdown -= (int) size;
        while (w.countdown <= 0) {
            samples[site]++;
            sampleEntry(site, stackOf(w));
            w.countdown += interval;
        }
    }

    private static int stackOf(Worker w) {
        int stack = 0;
        for (Active a : w.actives) {
            stack = stack * 8 + a.method + 1;
        }
        return stack % 4096;
    }

    private void sampleEntry(int site, int stack) {
        for (int[] e : entries) {
            if (e[0] == site && e[1] == stack) {
                e[2]++;
                return;
            }
        }
        if (entries.size() < 16) {
            entries.add(new int[] {site, stack, 1});
        }
    }

    private void raise(Worker w, int exception) {
        while (!w.actives.isEmpty()) {
            Active f = w.last();
            for (int[] q : bodies.get(f.method).ranges) {
                if (f.at >= q[0] && f.at < q[1]) {
                    f.stack.clear();
                    f.stack.push(exception);
                    f.at = q[2];
                    caught++;
                    return;
                }
            }
            w.actives.remove(w.actives.size() - 1);
        }
        w.state = 3;
        w.result = exception;
    }

    /** How many exceptions came to a handler; for the test alone. */
    int caught() {
        return caught;
    }

    int state(int thread) {
        argument(in(thread, 0, 2));
        return workers[thread].state;
    }

    int result(int thread) {
        argument(in(thread, 0, 2));
        element(workers[thread].state >= 2);
        return workers[thread].result;
    }

    int object(int n) {
        argument(in(n, 0, objects.size()));
        return n == 0 ? objects.size() : objects.get(n - 1);
    }

    long count(int site, int thread, int what) {
        argument(in(site, 0, sites - 1) && in(thread, -1, 2) && in(what, 0, 2));
        element(what < 2 || thread < 0);
        if (what == 2) {
            return samples[site];
        }
        long[][] of = counts[site];
        return thread >= 0 ? of[thread][what] : of[0][what] + of[1][what] + of[2][what];
    }

    int entry(int k, int what) {
        argument(in(what, 0, 2));
        bounds(in(k, 0, entries.size() - 1));
        return entries.get(k)[what];
    }

    float rate(int site) {
        argument(in(site, 0, sites - 1));
        return rates[site];
    }

    private long sum(int what) {
        long sum = 0;
        for (int s = 0; s < sites; s++) {
            sum += count(s, -1, what);
        }
        return sum;
    }

    float share(int site) {
        argument(in(site, 0, sites - 1));
        return sum(1) == 0 ? 0 : (float) count(site, -1, 1) / (float) sum(1);
    }

    double estimate(int site) {
        argument(in(site, 0, sites - 1));
        return sum(2) == 0 ? 0 : (double) samples[site] * (double) sum(1) / (double) sum(2);
    }

    long rounded(int site) {
        return (long) (estimate(site) + 0.5);
    }
}
