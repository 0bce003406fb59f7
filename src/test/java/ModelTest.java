import java.util.ArrayList;
import java.util.List;
import java.util.Random;
import java.util.TreeMap;
import java.util.function.Supplier;

/** All promises at once: many runs of calls, made from fixed seeds, answered by the program and by the Model. */
public final class ModelTest {
    private static final int RUNS = 3000;
    private static final int CALLS = 512;
    private static final Check check = new Check();
    /** How often something worth seeing was seen, so that the runs are known to get there. */
    private static final TreeMap<String, Integer> seen = new TreeMap<>();

    private final Random random;
    private final AllocationProfiler program = new AllocationProfiler();
    private final Model model = new Model();
    private final int seed;
    private int calls = 0;
    private int types = 0;
    private int methods = 0;

    private ModelTest(int seed) {
        this.seed = seed;
        random = new Random(seed);
    }

    public static void main(String[] args) {
        for (int seed = 0; seed < RUNS; seed++) {
            new ModelTest(seed).play();
        }
        for (String kind : new String[] {"malformed by depth", "malformed by range", "malformed otherwise", "woven",
            "returned", "threw -1", "threw -2", "threw other", "400 objects", "16 entries", "caught", "rate above 0"}) {
            check.same("the runs have seen: " + kind, seen.getOrDefault(kind, 0) >= 20 ? 1 : 0, 1);
        }
        System.out.println(seen);
        check.finish();
    }

    private int below(int n) {
        return random.nextInt(n);
    }

    private static void saw(String kind) {
        seen.merge(kind, 1, Integer::sum);
    }

    private static String answer(Supplier<Object> call) {
        try {
            return String.valueOf(call.get());
        } catch (RuntimeException e) {
            return "throws " + e.getClass().getSimpleName();
        }
    }

    private String both(String text, Supplier<Object> ofProgram, Supplier<Object> ofModel) {
        if (calls >= CALLS) {
            return "";
        }
        calls++;
        String got = answer(ofProgram);
        check.same("seed " + seed + ", call " + calls + ", " + text, got, answer(ofModel));
        return got;
    }

    private void play() {
        for (int k = below(7); k >= 0; k--) {
            makeType();
        }
        for (int k = below(9); k >= 0 && calls < 300; k--) {
            makeMethod();
        }
        if (below(3) == 0) {
            int m = below(6);
            both("exclude", () -> nothing(() -> program.exclude(m)), () -> nothing(() -> model.exclude(m)));
        }
        ask();
        int every = below(4) == 0 ? 50 + below(30) : below(20) == 0 ? 49 : 50 + below(400);
        String sites = both("weave " + every, () -> program.weave(every), () -> model.weave(every));
        if (!sites.startsWith("throws")) {
            saw("woven");
        }
        lookAtCode();
        while (calls < CALLS) {
            act();
        }
        look();
    }

    private static Object nothing(Runnable call) {
        call.run();
        return "";
    }

    private void makeType() {
        int parent = below(10) == 0 ? below(10) - 2 : below(types + 1) - 1;
        int longs = below(4);
        int ints = below(4);
        int chars = below(4);
        int bytes = below(30) == 0 ? 4 : below(4);
        String text = "type " + parent + " " + longs + " " + ints + " " + chars + " " + bytes;
        String made = both(text, () -> program.type(parent, longs, ints, chars, bytes),
                () -> model.type(parent, longs, ints, chars, bytes));
        types += made.startsWith("throws") ? 0 : 1;
        int type = below(7) - 1;
        both("size " + type, () -> program.size(type), () -> model.size(type));
    }

    /** A draft whose depths mostly fit, so that most can be defined; some are spoilt then. */
    private void makeMethod() {
        List<int[]> code = new ArrayList<>();
        List<Integer> depths = new ArrayList<>();
        writeCode(code, depths);
        aimBranches(code, depths);
        List<int[]> ranges = new ArrayList<>();
        for (int k = below(3); k > 0; k--) {
            ranges.add(aRange(code.size(), depths));
        }
        if (below(5) == 0) {
            spoil(code, ranges);
        }
        for (int[] c : code) {
            both("draft " + c[0] + " " + c[1], () -> program.draft(c[0], c[1]), () -> model.draft(c[0], c[1]));
        }
        for (int[] q : ranges) {
            both("range " + q[0] + " " + q[1] + " " + q[2], () -> program.range(q[0], q[1], q[2]),
                    () -> model.range(q[0], q[1], q[2]));
        }
        String defined = both("define", program::define, model::define);
        methods += defined.isEmpty() || defined.startsWith("throws") ? 0 : 1;
        String place = both("fault", program::fault, model::fault);
        if (defined.equals("throws IllegalArgumentException")) {
            int fault = Integer.parseInt(place);
            boolean byDepth = fault < code.size() - 1 && code.get(fault)[0] <= Check.POP;
            saw(fault >= 24 ? "malformed by range" : byDepth ? "malformed by depth" : "malformed otherwise");
        }
    }

    private void writeCode(List<int[]> code, List<Integer> depths) {
        int length = 2 + below(below(3) == 0 ? 23 : 12);
        int depth = 0;
        while (code.size() < length - 1) {
            int operation = anOperation(depth);
            depths.add(depth);
            code.add(new int[] {operation, anArgument(operation)});
            depth += new int[] {1, 1, -1, -1, -1, -1, 1, -1, 0, -1, -1, 1, 0, 0}[operation];
        }
        depths.add(depth);
        int end = depth == 0 ? Check.GOTO : below(6) == 0 ? Check.THROW : below(5) == 0 ? Check.GOTO : Check.RETURN;
        code.add(new int[] {end, 0});
        depths.add(-1);
    }

    private int anOperation(int depth) {
        if (depth == 0) {
            return new int[] {Check.PUSH, Check.LOAD, Check.NEW, below(4) == 0 ? Check.GOTO : Check.LOAD}[below(4)];
        }
        if (depth >= 4) {
            return new int[] {Check.ADD, Check.MUL, Check.POP, Check.STORE, Check.IFNEG, Check.ARRAY}[below(6)];
        }
        int[] one = {Check.PUSH, Check.LOAD, Check.STORE, Check.DUP, Check.POP, Check.IFZERO, Check.IFNEG, Check.NEW,
            Check.ARRAY, Check.ARRAY, Check.CALL, Check.CALL, Check.GOTO};
        int[] two = {Check.ADD, Check.SUB, Check.SUB, Check.MUL};
        return depth >= 2 && below(3) == 0 ? two[below(4)] : one[below(one.length)];
    }

    private int anArgument(int operation) {
        return switch (operation) {
            case Check.PUSH -> below(10) == 0 ? random.nextInt() : below(12) == 0 ? below(100000) : below(60) - 6;
            case Check.LOAD, Check.STORE -> below(4);
            case Check.NEW -> below(60) == 0 ? below(9) - 2 : below(Math.max(types, 1));
            case Check.ARRAY -> 1 << below(4);
            case Check.CALL -> below(60) == 0 ? below(9) - 2 : below(methods + 1);
            default -> below(3) == 0 ? random.nextInt() : 0;
        };
    }

    /** Lets each branch go to a place that has the depth that is there behind it. */
    private void aimBranches(List<int[]> code, List<Integer> depths) {
        for (int i = 0; i < code.size(); i++) {
            int operation = code.get(i)[0];
            if (operation < Check.GOTO || operation > Check.IFNEG) {
                continue;
            }
            int after = operation == Check.GOTO ? depths.get(i) : depths.get(i) - 1;
            List<Integer> places = new ArrayList<>();
            for (int k = 0; k < code.size(); k++) {
                if (depths.get(k) == after) {
                    places.add(k);
                }
            }
            code.get(i)[1] = places.isEmpty() ? i : places.get(below(places.size()));
        }
    }

    private int[] aRange(int length, List<Integer> depths) {
        int begin = below(length);
        int end = begin + 1 + below(length - begin);
        List<Integer> places = new ArrayList<>();
        for (int k = 0; k < length; k++) {
            if (depths.get(k) == 1) {
                places.add(k);
            }
        }
        return new int[] {begin, end, places.isEmpty() ? 0 : places.get(below(places.size()))};
    }

    private void spoil(List<int[]> code, List<int[]> ranges) {
        switch (below(4)) {
            case 0 -> code.get(below(code.size()))[0] = below(18) - 1;
            case 1 -> code.get(below(code.size()))[1] = below(28) - 2;
            case 2 -> ranges.add(new int[] {below(28) - 2, below(28) - 2, below(28) - 2});
            default -> code.remove(below(code.size()));
        }
    }

    private void lookAtCode() {
        for (int k = 0; k < 12; k++) {
            int m = below(7) - 1;
            int what = below(20) == 0 ? below(8) - 2 : below(5);
            int i = what >= 2 && below(8) > 0 ? below(2) : below(29) - 1;
            boolean asWoven = below(3) > 0;
            both("length", () -> program.length(m, asWoven), () -> model.length(m, asWoven));
            both("code " + m + " " + i + " " + what, () -> program.code(m, i, what), () -> model.code(m, i, what));
            both("site " + m + " " + i, () -> program.site(m, i), () -> model.site(m, i));
        }
    }

    private void act() {
        int thread = below(40) == 0 ? below(6) - 2 : below(3);
        switch (below(4)) {
            case 0 -> {
                int method = below(40) == 0 ? below(9) - 2 : below(Math.max(methods, 1));
                int x = below(6) == 0 ? random.nextInt() : below(40) - 4;
                both("start " + thread + " " + method + " " + x,
                        () -> nothing(() -> program.start(thread, method, x)),
                        () -> nothing(() -> model.start(thread, method, x)));
            }
            case 1 -> {
                int steps = below(50) == 0 ? below(220) - 8 : below(3) == 0 ? 1 + below(16) : 1 + below(200);
                both("run " + steps, () -> program.run(steps), () -> model.run(steps));
            }
            default -> ask();
        }
    }

    private void ask() {
        int thread = below(20) == 0 ? below(6) - 2 : below(3);
        int site = below(20) == 0 ? below(90) - 2 : below(10);
        int what = below(20) == 0 ? below(7) - 2 : below(3);
        int k = below(18) - 1;
        int n = below(3) == 0 ? 0 : below(40);
        switch (below(9)) {
            case 0 -> both("state " + thread, () -> program.state(thread), () -> model.state(thread));
            case 1 -> both("result " + thread, () -> program.result(thread), () -> model.result(thread));
            case 2 -> both("object " + n, () -> program.object(n), () -> model.object(n));
            case 3 -> both("count " + site + " " + (thread - 1) + " " + what,
                    () -> program.count(site, thread - 1, what), () -> model.count(site, thread - 1, what));
            case 4 -> both("entry " + k + " " + what, () -> program.entry(k, what), () -> model.entry(k, what));
            case 5 -> both("rate " + site, () -> program.rate(site), () -> model.rate(site));
            case 6 -> both("share " + site, () -> program.share(site), () -> model.share(site));
            case 7 -> both("estimate " + site, () -> program.estimate(site), () -> model.estimate(site));
            default -> both("rounded " + site, () -> program.rounded(site), () -> model.rounded(site));
        }
    }

    /** What the run has come to; it asks the model alone, so that the program has no call beyond its 512. */
    private void look() {
        for (int t = 0; t < 3; t++) {
            if (model.state(t) == 2) {
                saw("returned");
            }
            if (model.state(t) == 3) {
                int thrown = model.result(t);
                saw(thrown == -1 ? "threw -1" : thrown == -2 ? "threw -2" : "threw other");
            }
        }
        if (model.object(0) == 400) {
            saw("400 objects");
        }
        if (!answer(() -> model.entry(15, 0)).startsWith("throws")) {
            saw("16 entries");
        }
        if (model.caught() > 0) {
            saw("caught");
        }
        String rate = answer(() -> model.rate(0));
        if (!rate.startsWith("throws") && Float.parseFloat(rate) > 0) {
            saw("rate above 0");
        }
    }
}
