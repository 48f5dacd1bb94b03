import java.math.BigInteger;
import java.util.Random;

/** Many runs of up to 512 calls, each answer held against the model's. */
public final class ModelTest {
    private static final int RUNS = 600;
    private static final int CALLS = 512;
    private static final int KINDS = 19;
    private static final int[] STRETCHES = {1, 3, 5, 7};

    private final Check check;
    private final Random random;
    private final StreamCounts real = new StreamCounts();
    private final Model model = new Model();
    private final int run;
    private final int changes;

    private ModelTest(Check check, int run) {
        this.check = check;
        this.run = run;
        random = new Random(run);
        changes = 20 + random.nextInt(75);
    }

    public static void main(String[] args) {
        Check check = new Check();
        for (int run = 0; run < RUNS; run++) {
            new ModelTest(check, run).go();
        }
        check.end();
    }

    private void go() {
        int first = random.nextInt(10) == 0 ? 0 : 3;
        int nodes = nodes();
        int slots = 1 + random.nextInt(random.nextBoolean() ? 4 : 16);
        int stretch = STRETCHES[random.nextInt(4)];
        long seed = random.nextLong();
        for (int s = 0; s < first; s++) {
            due("begin", real.begin(s, nodes, slots, stretch, seed), model.begin(s, nodes, slots, stretch, seed));
        }
        for (int i = first; i < CALLS; i++) {
            if (random.nextInt(100) < changes) {
                change();
            } else {
                ask();
            }
        }
    }

    private int nodes() {
        switch (random.nextInt(4)) {
            case 0: return 2 + random.nextInt(4);
            case 1: return 64;
            default: return 2 + random.nextInt(63);
        }
    }

    private void change() {
        int s = stream(), a = node(s), b = node(s);
        int kind = random.nextInt(200);
        if (kind == 0) {
            int nodes = off(2 + random.nextInt(63)), slots = off(1 + random.nextInt(16));
            int stretch = random.nextInt(4) == 0 ? random.nextInt(10) - 1 : STRETCHES[random.nextInt(4)];
            long seed = random.nextInt(3);
            due("begin", real.begin(s, nodes, slots, stretch, seed), model.begin(s, nodes, slots, stretch, seed));
        } else if (kind < 130) {
            due("add", real.add(s, a, b), model.add(s, a, b));
        } else if (kind < 160) {
            due("take", real.take(s, a, b), model.take(s, a, b));
        } else if (run % 3 == 0) {
            int o = stream();
            due("merge", real.merge(s, o), model.merge(s, o));
        }
    }

    private void ask() {
        int s = stream(), a = node(s), b = node(s), i = off(random.nextInt(20));
        int n = off(random.nextInt(1 + random.nextInt(120)));
        int what = random.nextInt(4) == 0 ? random.nextInt(6) - 1 : random.nextInt(3);
        int level = random.nextInt(3) == 0 ? random.nextInt(13) - 1 : random.nextInt(3);
        long set = set();
        switch (random.nextInt(KINDS)) {
            case 0: due("told", real.told(s, i - 5), model.told(s, i - 5)); break;
            case 1: due("span", real.span(s, a, what), model.span(s, a, what)); break;
            case 2: due("slot", real.slot(s, i / 3, what), model.slot(s, i / 3, what)); break;
            case 3: due("parts", real.parts(s, n), model.parts(s, n)); break;
            case 4: due("part", real.part(s, n, a), model.part(s, n, a)); break;
            case 5: due("tree", real.tree(s, i, what), model.tree(s, i, what)); break;
            case 6: due("since", real.since(s, a, b), model.since(s, a, b)); break;
            case 7: due("far", real.far(s, a, b), model.far(s, a, b)); break;
            case 8: due("kept", real.kept(s, i, what), model.kept(s, i, what)); break;
            case 9: due("mate", real.mate(s, a), model.mate(s, a)); break;
            case 10: case 11: due("sum", real.sum(s, a, level, what), model.sum(s, a, level, what)); break;
            case 12: case 13: due("out", real.out(s, set), model.out(s, set)); break;
            case 14: case 15: due("level", real.level(), model.level()); break;
            case 16: due("told", real.told(s, level), model.told(s, level)); break;
            case 17: due("same", real.same(s, i % 3), model.same(s, i % 3)); break;
            default: spanHolds(s, a);
        }
    }

    private int stream() {
        return random.nextInt(25) == 0 ? random.nextInt(7) - 2 : random.nextInt(3);
    }

    private int node(int s) {
        int nodes = s >= 0 && s <= 2 ? model.told(s, 6) : 5;
        return random.nextInt(40) == 0 ? random.nextInt(70) - 2 : random.nextInt(nodes);
    }

    private int off(int number) {
        switch (random.nextInt(60)) {
            case 0: return -number;
            case 1: return number + 60;
            case 2: return Integer.MAX_VALUE;
            case 3: return Integer.MIN_VALUE;
            default: return number;
        }
    }

    private long set() {
        return random.nextInt(3) == 0 ? random.nextLong() : 1L << random.nextInt(64) | 1L << random.nextInt(8);
    }

    /** What the document says of spans: how many arcs have a node lies in its span. */
    private void spanHolds(int s, int n) {
        int from = real.span(s, n, 0);
        due("span", from, model.span(s, n, 0));
        if (from >= 0) {
            BigInteger arcs = model.streams[s].degrees[n];
            check.isTrue("run " + run + ": from " + s + " " + n, BigInteger.valueOf(from).compareTo(arcs) <= 0);
            BigInteger to = BigInteger.valueOf(from).add(BigInteger.valueOf(model.told(s, 2)));
            check.isTrue("run " + run + ": to " + s + " " + n, to.compareTo(arcs) >= 0);
        }
    }

    private void due(String call, long got, long want) {
        check.due("run " + run + ": " + call, got, want);
    }
}
