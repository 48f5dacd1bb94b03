import java.util.Random;

/** No call throws, for any numbers and in any state, even after the 512th call. */
public final class NeverThrowsTest {
    private static final int RUNS = 40;
    private static final int CALLS = 20000;
    private static final int[] FAR = {Integer.MIN_VALUE, Integer.MIN_VALUE + 1, -65, -64, -2, -1,
        64, 65, 511, 512, 513, 4095, 4096, Integer.MAX_VALUE - 1, Integer.MAX_VALUE};

    private final Random random;
    private final StreamCounts counts = new StreamCounts();

    private NeverThrowsTest(int run) {
        random = new Random(run);
    }

    public static void main(String[] args) {
        Check check = new Check();
        for (int run = 0; run < RUNS; run++) {
            NeverThrowsTest test = new NeverThrowsTest(run);
            check.due("run " + run, test.go(run), CALLS);
        }
        check.end();
    }

    private int go(int run) {
        for (int s = 0; s < 3; s++) {
            counts.begin(s, run % 2 == 0 ? 64 : 2 + run, 1 + run % 16, 1 + run % 4 * 2, run);
        }
        int ended = 0;
        for (int i = 0; i < CALLS; i++) {
            call(random.nextInt(40), number(3), number(64), number(64));
            ended++;
        }
        return ended;
    }

    private int number(int bound) {
        return random.nextInt(12) == 0 ? FAR[random.nextInt(FAR.length)] : random.nextInt(bound);
    }

    private void call(int kind, int s, int a, int b) {
        switch (kind) {
            case 0: counts.merge(s, number(3)); break;
            case 1: counts.told(s, number(9)); break;
            case 2: counts.span(s, a, number(2)); break;
            case 3: counts.slot(s, number(16), number(2)); break;
            case 4: counts.parts(s, a); break;
            case 5: counts.part(s, a, b); break;
            case 6: counts.tree(s, a, number(3)); break;
            case 7: counts.since(s, a, b); break;
            case 8: counts.far(s, a, b); break;
            case 9: counts.kept(s, random.nextInt(520), number(3)); break;
            case 10: counts.mate(s, a); break;
            case 11: counts.sum(s, a, number(10), number(3)); break;
            case 12: counts.out(s, random.nextLong()); break;
            case 13: counts.level(); break;
            case 14: counts.same(s, number(3)); break;
            case 15: counts.take(s, a, b); break;
            case 16: beginSeldom(s, a); break;
            default: counts.add(s, a, b);
        }
    }

    // A stream that seldom begins anew grows past every limit that 512 calls would keep.
    private void beginSeldom(int s, int nodes) {
        if (random.nextInt(100) == 0) {
            counts.begin(s, nodes, number(17), number(8), random.nextLong());
        }
    }
}
