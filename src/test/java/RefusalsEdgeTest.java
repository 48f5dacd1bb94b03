import java.util.Arrays;
import java.util.Map;
import java.util.function.Consumer;
import java.util.function.ToLongFunction;

/** Which refusal is answered, that it changes nothing, and what a call that is not refused leaves as it is. */
public final class RefusalsEdgeTest extends Scene {
    private static final int[] FAR = {-1, 3, 6, 64, LEAST, MOST};

    public static void main(String[] args) throws Exception {
        play(RefusalsEdgeTest.class);
    }

    /** Streams 0 and 1 of one form, stream 2 of another, all with something in each part; a level is told. */
    private static void rich(Counted x) {
        x.begin(0, 5, 2, 3, 5L);
        x.begin(1, 5, 2, 3, 5L);
        x.begin(2, 6, 3, 1, 9L);
        addAll(x, 0, 0, 1, 1, 2, 2, 0, 0, 3, 0, 3, 0, 1);
        addAll(x, 1, 3, 4, 2, 3, 4, 2, 1, 4, 1, 4, 3, 4);
        addAll(x, 2, 1, 2, 2, 3, 0, 4, 3, 5, 3, 5, 1, 2);
        x.take(0, 1, 2);
        x.take(1, 0, 1);
        x.merge(0, 1);
        x.out(1, 1L << 2);
    }

    private static void addAll(Counted x, int stream, int... nodes) {
        for (int i = 0; i + 1 < nodes.length; i += 2) {
            x.add(stream, nodes[i], nodes[i + 1]);
        }
    }

    /** A count of stream 0 and one of stream 1 are together a billion and one. */
    private static void fullByCount(Counted x) {
        grown(x, 3, 2);
    }

    /** What stream 0 and stream 1 have lost is together a billion and one. */
    private static void fullByLost(Counted x) {
        grown(x, 3, 1);
    }

    private static void grown(Counted x, int nodes, int slots) {
        x.begin(0, nodes, slots, 1, 5L);
        for (int bit = 29; bit >= 0; bit--) {
            x.begin(2, nodes, slots, 1, 5L);
            x.merge(2, 0);
            x.merge(0, 2);
            if ((BILLION >> bit & 1) == 1) {
                x.add(0, 0, 1);
            }
        }
        x.begin(1, nodes, slots, 1, 5L);
        x.add(1, 0, 1);
        x.out(1, 1L);
    }

    /** All answers are as before, but for those of parts whose questions begin so. */
    private void alike(String call, Map<String, Long> after, Map<String, Long> before, String... but) {
        before.forEach((question, answer) -> {
            if (Arrays.stream(but).noneMatch(question::startsWith)) {
                due(call + ", then " + question, after.getOrDefault(question, Long.MAX_VALUE), answer);
            }
        });
    }

    /** Each call is made after the run, answers the refusal, and leaves all as it was. */
    private final class Refused {
        private final Consumer<Counted> run;
        private final Map<String, Long> before;

        Refused(Consumer<Counted> run) {
            this.run = run;
            before = State.after(run);
        }

        void call(String text, long refusal, ToLongFunction<Counted> call) {
            Map<String, Long> after = State.after(x -> {
                run.accept(x);
                due(text, call.applyAsLong(x), refusal);
            });
            alike(text, after, before);
        }
    }

    // ---- what is refused changes nothing

    @Says("What is refused changes nothing.")
    void aRefusedBeginChangesNothing() {
        Refused refused = new Refused(RefusalsEdgeTest::rich);
        for (int s : WRONG_STREAMS) {
            refused.call("stream " + s, BAD, x -> x.begin(s, 5, 2, 3, 5L));
        }
        for (int nodes : new int[] {1, 65, -5, LEAST, MOST}) {
            refused.call("nodes " + nodes, BAD, x -> x.begin(0, nodes, 2, 3, 5L));
        }
        for (int slots : new int[] {0, 17, -2, LEAST, MOST}) {
            refused.call("slots " + slots, BAD, x -> x.begin(0, 5, slots, 3, 5L));
        }
        for (int stretch : new int[] {0, 2, 4, 6, 8, 9, -3, LEAST, MOST}) {
            refused.call("stretch " + stretch, BAD, x -> x.begin(0, 5, 2, stretch, 5L));
        }
    }

    @Says("What is refused changes nothing.")
    void aRefusedArcChangesNothing() {
        Refused refused = new Refused(RefusalsEdgeTest::rich);
        for (int s : WRONG_STREAMS) {
            refused.call("add, stream " + s, BAD, x -> x.add(s, 0, 1));
            refused.call("take, stream " + s, BAD, x -> x.take(s, 0, 1));
        }
        for (int node : new int[] {-1, 5, 64, LEAST, MOST}) {
            refused.call("add, a " + node, BAD, x -> x.add(0, node, 1));
            refused.call("add, b " + node, BAD, x -> x.add(0, 1, node));
            refused.call("take, a " + node, BAD, x -> x.take(0, node, 1));
            refused.call("take, b " + node, BAD, x -> x.take(0, 1, node));
        }
        for (int node = 0; node < 5; node++) {
            int twice = node;
            refused.call("add, twice " + node, BAD, x -> x.add(0, twice, twice));
            refused.call("take, twice " + node, BAD, x -> x.take(0, twice, twice));
        }
    }

    @Says("What is refused changes nothing.")
    void aRefusedMergeChangesNothing() {
        Refused refused = new Refused(RefusalsEdgeTest::rich);
        for (int s : WRONG_STREAMS) {
            refused.call("stream " + s, BAD, x -> x.merge(s, 0));
            refused.call("other " + s, BAD, x -> x.merge(0, s));
        }
        for (int s = 0; s < 3; s++) {
            int twice = s;
            refused.call("twice " + s, BAD, x -> x.merge(twice, twice));
        }
        refused.call("apart", APART, x -> x.merge(0, 2));
        refused.call("apart", APART, x -> x.merge(2, 1));
    }

    @Says("What is refused changes nothing.")
    void aFullMergeChangesNeitherStream() {
        Refused byCount = new Refused(RefusalsEdgeTest::fullByCount);
        byCount.call("count", FULL, x -> x.merge(0, 1));
        byCount.call("count, the other way", FULL, x -> x.merge(1, 0));
        Refused byLost = new Refused(RefusalsEdgeTest::fullByLost);
        byLost.call("lost", FULL, x -> x.merge(0, 1));
        byLost.call("lost, the other way", FULL, x -> x.merge(1, 0));
    }

    @Says("What is refused changes nothing.")
    void aRefusedQuestionChangesNothing() {
        Refused refused = new Refused(RefusalsEdgeTest::rich);
        refused.call("out", BAD, x -> x.out(3, 1L));
        refused.call("out", BAD, x -> x.out(-1, -1L));
        refused.call("same", APART, x -> x.same(0, 2));
        refused.call("same", BAD, x -> x.same(3, 0));
        refused.call("told", BAD, x -> x.told(0, 9));
        refused.call("span", BAD, x -> x.span(0, 5, 0));
        refused.call("slot", BAD, x -> x.slot(0, 2, 0));
        refused.call("parts", BAD, x -> x.parts(0, -1));
        refused.call("part", BAD, x -> x.part(0, -1, 0));
        refused.call("tree", BAD, x -> x.tree(0, 4, 0));
        refused.call("since", BAD, x -> x.since(0, 5, 0));
        refused.call("since", NONE, x -> x.since(0, 4, 0));
        refused.call("far", BAD, x -> x.far(0, 0, 5));
        refused.call("far", NONE, x -> x.far(0, 0, 4));
        refused.call("kept", BAD, x -> x.kept(0, 9, 0));
        refused.call("mate", BAD, x -> x.mate(0, 5));
        refused.call("mate", NONE, x -> x.mate(0, 4));
        refused.call("sum", 0, x -> x.sum(0, 5, 0, 0));
    }

    // ---- of several the first one

    @Says("of several the first one in this order: BAD (a number is not as told, there is no such thing), NONE")
    void badComesBeforeNone() {
        x.begin(0, 3, 2, 3, 5L);
        for (int node : FAR) {
            due("since, no way to 0 either", x.since(0, 0, node), BAD);
            due("since", x.since(0, node, 0), BAD);
            due("since itself", x.since(0, node, node), BAD);
            due("far", x.far(0, 0, node), BAD);
            due("far", x.far(0, node, 0), BAD);
            due("far from itself", x.far(0, node, node), BAD);
            due("mate", x.mate(0, node), BAD);
        }
    }

    @Says("of several the first one in this order: BAD (a number is not as told, there is no such thing), NONE, APART")
    void badComesBeforeApart() {
        x.begin(0, 3, 2, 3, 5L);
        for (int s : WRONG_STREAMS) {
            due("merge", x.merge(0, s), BAD);
            due("merge", x.merge(s, 0), BAD);
            due("same", x.same(0, s), BAD);
            due("same", x.same(s, 0), BAD);
        }
        due("merge", x.merge(0, 1), APART);
        due("same", x.same(0, 1), APART);
    }

    @Says("APART (two STREAMS of which N, or SLOTS, STRETCH or SEED are not the same), FULL")
    void apartComesBeforeFull() {
        grow(4, 2, 0, 1, BILLION);
        long[][] forms = {{5, 2, 1, 5}, {4, 3, 1, 5}, {4, 2, 3, 5}, {4, 2, 1, 6}, {4, 2, 1, 5 + (1L << 32)}};
        for (long[] form : forms) {
            x.begin(1, (int) form[0], (int) form[1], (int) form[2], form[3]);
            adds(1, 0, 1);
            due("apart", x.merge(0, 1), APART);
            due("apart, the other way", x.merge(1, 0), APART);
        }
        x.begin(1, 4, 2, 1, 5L);
        adds(1, 0, 1);
        due("full", x.merge(0, 1), FULL);
    }

    @Says("of several the first one in this order: BAD")
    void badComesBeforeFull() {
        grow(4, 2, 0, 1, BILLION);
        due("with itself", x.merge(0, 0), BAD);
        for (int s : WRONG_STREAMS) {
            due("with none", x.merge(0, s), BAD);
            due("into none", x.merge(s, 0), BAD);
        }
    }

    @Says("BAD (a number is not as told, there is no such thing)")
    void allNumbersMayBeWrongAtOnce() {
        for (int far : FAR) {
            due("begin", x.begin(far, far, far, far, far), BAD);
            due("add", x.add(far, far, far), BAD);
            due("take", x.take(far, far, far), BAD);
            due("merge", x.merge(far, far), BAD);
            due("told", x.told(far, far), BAD);
            due("span", x.span(far, far, far), BAD);
            due("slot", x.slot(far, far, far), BAD);
            due("parts", x.parts(far, far), BAD);
            due("part", x.part(far, far, far), BAD);
            due("tree", x.tree(far, far, far), BAD);
            due("since", x.since(far, far, far), BAD);
            due("far", x.far(far, far, far), BAD);
            due("kept", x.kept(far, far, far), BAD);
            due("mate", x.mate(far, far), BAD);
            due("sum", x.sum(far, far, far, far), 0);
            due("out", x.out(far, far), BAD);
            due("same", x.same(far, far), BAD);
        }
    }

    // ---- what is not refused changes no more than it should

    @Says("What is taken away changes the ROWS alone")
    void takeChangesTheRowsOfItsStreamAlone() {
        Map<String, Long> before = State.after(RefusalsEdgeTest::rich);
        for (int s = 0; s < 3; s++) {
            int stream = s;
            for (int[] arc : new int[][] {{0, 1}, {2, 1}, {3, 4}}) {
                Map<String, Long> after = State.after(x -> {
                    rich(x);
                    x.take(stream, arc[0], arc[1]);
                });
                alike("take " + s, after, before, s + " rows");
                due("it was heard", after.equals(before) ? 1 : 0, 0);
            }
        }
    }

    @Says("putting together COUNTERS and ROWS alone")
    void mergeChangesCountersAndRowsOfItsStreamAlone() {
        Map<String, Long> before = State.after(RefusalsEdgeTest::rich);
        for (int[] pair : new int[][] {{0, 1}, {1, 0}}) {
            Map<String, Long> after = State.after(x -> {
                rich(x);
                x.merge(pair[0], pair[1]);
            });
            alike("merge " + pair[0], after, before, pair[0] + " counters", pair[0] + " rows");
            due("it was heard", after.equals(before) ? 1 : 0, 0);
        }
    }

    @Says("An ARC of a and b comes to a STREAM: its TIME.")
    void addChangesItsStreamAlone() {
        Map<String, Long> after = State.after(x -> {
            rich(x);
            due("add", x.add(1, 3, 4), 7);
        });
        alike("add", after, State.after(RefusalsEdgeTest::rich), "1 ");
        due("it was heard", after.get("1 form: told 0"), 7);
    }

    @Says("A STREAM begins anew so")
    void beginChangesItsStreamAlone() {
        Map<String, Long> after = State.after(x -> {
            rich(x);
            due("begin", x.begin(1, 9, 9, 7, 9L), 6);
        });
        alike("begin", after, State.after(RefusalsEdgeTest::rich), "1 ");
        due("it was heard", after.get("1 form: told 6"), 9);
    }

    @Says("The level by which the latest out() told a KEY")
    void questionsChangeNothingButTheLevel() {
        Map<String, Long> before = State.after(RefusalsEdgeTest::rich);
        due("a level is told", before.get("level"), 1);
        alike("after questions", State.after(x -> {
            rich(x);
            ask(x);
        }), before, "level");
    }

    private static void ask(Counted x) {
        for (int s = 0; s < 3; s++) {
            for (int i = 0; i < 9; i++) {
                x.told(s, i);
                x.span(s, i % 5, i % 2);
                x.slot(s, i / 2, i % 2);
                x.parts(s, i);
                x.part(s, i, i % 5);
                x.tree(s, i / 3, i % 3);
                x.since(s, i % 5, i / 2);
                x.far(s, i % 5, i / 2);
                x.kept(s, i / 3, i % 3);
                x.mate(s, i % 5);
                x.sum(s, i % 5, i, i % 3);
                x.out(s, i);
                x.same(s, i % 3);
            }
        }
    }
}
