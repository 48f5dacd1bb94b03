/** Each promise by answers worked out by hand: ordinary calls, the document's edges, wrong numbers. */
public final class PromisesTest extends Scene {
    private static final long GOLDEN = 0x9E3779B97F4A7C15L;

    public static void main(String[] args) throws Exception {
        play(PromisesTest.class);
    }

    @Says("Promise 1: A new object")
    void newObject() {
        for (int s = 0; s < 3; s++) {
            tells(s, 0, 0, 0, 0, 0, 0, 2, 1, 1);
            due("parts", x.parts(s, 5), 2);
            due("mate", x.mate(s, 1), NONE);
            due("out", x.out(s, 1), NOTHING);
            due("sum", x.sum(s, 0, 0, 0), 0);
            due("no node 2", x.mate(s, 2), BAD);
        }
        due("level", x.level(), NONE);
        x.add(0, 0, 1);
        due("seed 0", x.take(0, 0, 1), Model.levelOf(0L, 1));
        due("alike", x.same(1, 2), 1);
        due("begin(1) like new", x.begin(1, 2, 1, 1, 0L), 0);
        due("not apart", x.merge(1, 2), 0);
        StreamCounts y = new StreamCounts();
        due("objects are on their own", y.told(0, 0), 0);
    }

    @Says("Promise 2: begin")
    void begin() {
        x.begin(0, 6, 3, 5, 11L);
        adds(0, 0, 1, 2, 3, 0, 2);
        adds(1, 0, 1);
        due("had come", x.begin(0, 5, 2, 7, -4L), 3);
        tells(0, 0, 0, 0, 0, 0, 0, 5, 2, 7);
        due("parts", x.parts(0, 9), 5);
        due("far", x.far(0, 0, 1), NONE);
        due("mate", x.mate(0, 0), NONE);
        due("sum", x.sum(0, 0, 0, 0), 0);
        due("since", x.since(0, 0, 1), NONE);
        due("kept", x.kept(0, 0, 0), BAD);
        due("tree", x.tree(0, 0, 0), BAD);
        due("seed", x.take(0, 2, 3), Model.levelOf(-4L, 131));
        due("others stay", x.told(1, 0), 1);
        due("again", x.begin(0, 64, 16, 1, Long.MIN_VALUE), 0);
        due("time from 1", x.add(0, 63, 0), 1);
    }

    @Says("Promise 2: begin")
    void beginWrong() {
        x.begin(1, 6, 3, 5, 11L);
        adds(1, 0, 1, 4, 5);
        for (int s : WRONG_STREAMS) {
            due("stream " + s, x.begin(s, 6, 3, 5, 1L), BAD);
        }
        for (int nodes : new int[] {1, 0, -1, 65, Integer.MIN_VALUE, Integer.MAX_VALUE}) {
            due("nodes " + nodes, x.begin(1, nodes, 3, 5, 1L), BAD);
        }
        for (int slots : new int[] {0, -1, 17, Integer.MIN_VALUE, Integer.MAX_VALUE}) {
            due("slots " + slots, x.begin(1, 6, slots, 5, 1L), BAD);
        }
        for (int stretch : new int[] {0, -1, 2, 4, 6, 8, 9, Integer.MIN_VALUE, Integer.MAX_VALUE}) {
            due("stretch " + stretch, x.begin(1, 6, 3, stretch, 1L), BAD);
        }
        tells(1, 2, 0, 1, 2, 2, 2, 6, 3, 5);
        for (int stretch = 1; stretch <= 7; stretch += 2) {
            due("good " + stretch, x.begin(2, 2, 16, stretch, 1L), 0);
            due("good " + stretch, x.told(2, 8), stretch);
        }
    }

    @Says("Promise 3: add")
    void add() {
        x.begin(0, 5, 2, 3, 5L);
        due("first", x.add(0, 4, 0), 1);
        for (int s : WRONG_STREAMS) {
            due("stream " + s, x.add(s, 0, 1), BAD);
        }
        for (int node : new int[] {-1, 5, 64, Integer.MIN_VALUE, Integer.MAX_VALUE}) {
            due("a " + node, x.add(0, node, 1), BAD);
            due("b " + node, x.add(0, 1, node), BAD);
        }
        due("twice", x.add(0, 3, 3), BAD);
        tells(0, 1, 2, 0, 1, 1, 1);
        due("the same again", x.add(0, 0, 4), 2);
        due("other stream", x.add(1, 1, 0), 1);
        tells(0, 2, 2, 0, 1, 1, 1);
        due("forest has the later", x.tree(0, 0, 0), 2);
        due("thinned has the earlier", x.kept(0, 0, 2), 1);
    }

    @Says("Promise 3: add")
    void addAsOftenAsMayBe() {
        x.begin(0, 64, 16, 1, 5L);
        int time = 0;
        for (int a = 0; a < 64 && time < 509; a++) {
            for (int b = a + 1; b < 64 && time < 509; b++) {
                time++;
                due("add", x.add(0, a, b), time);
            }
        }
        due("all are kept", x.told(0, 4), 509);
        due("the last one", x.kept(0, 508, 2), 509);
    }

    @Says("Promise 4: take")
    void take() {
        x.begin(0, 6, 2, 3, 5L);
        adds(0, 0, 1, 1, 2, 0, 1);
        int[] before = {3, 2, 1, 2, 2, 1, 6, 2, 3};
        tells(0, before);
        due("level 3", x.take(0, 1, 0), 3);
        due("level 0", x.take(0, 1, 2), 0);
        tells(0, before);
        due("one is left", x.sum(0, 0, 3, 0), 1);
        due("nothing above", x.sum(0, 0, 4, 0), 0);
        due("from b", x.sum(0, 1, 0, 1), -1);
        due("one that never came", x.take(0, 4, 5), Model.levelOf(5L, 261));
        due("its a", x.sum(0, 4, 0, 1), -261);
        due("its b", x.sum(0, 5, 0, 2), 261 * 261);
        for (int s : WRONG_STREAMS) {
            due("stream " + s, x.take(s, 0, 1), BAD);
        }
        for (int node : new int[] {-1, 6, 64, Integer.MIN_VALUE, Integer.MAX_VALUE}) {
            due("a " + node, x.take(0, node, 1), BAD);
            due("b " + node, x.take(0, 1, node), BAD);
        }
        due("twice", x.take(0, 2, 2), BAD);
        x.begin(1, 64, 1, 1, -2L * GOLDEN);
        due("all bits 0: at most 9", x.take(1, 0, 1), 9);
        due("at level 9 too", x.sum(1, 1, 9, 0), 1);
    }

    @Says("Promise 5: merge")
    void merge() {
        for (int s = 0; s < 3; s++) {
            x.begin(s, 8, 2, 3, 5L);
        }
        adds(0, 0, 1, 0, 1, 0, 1);
        adds(1, 2, 0, 0, 2);
        due("counts 5, 3, 2, c is 2", x.merge(0, 1), 2);
        tells(0, 3, 2, 2, 1, 1, 1);
        due("0 has", x.span(0, 0, 0), 3);
        due("1 has", x.span(0, 1, 0), 1);
        due("2 to", x.span(0, 2, 1), 2);
        due("rows", x.sum(0, 0, 0, 0), 5);
        due("rows", x.sum(0, 2, 0, 1), -4);
        due("forest stays", x.since(0, 0, 2), NONE);
        due("thinned stays", x.far(0, 0, 2), NONE);
        due("matching stays", x.mate(0, 2), NONE);
        tells(1, 2, 2, 0, 1, 1, 1);
        due("the other stays", x.sum(1, 0, 0, 0), 2);
        adds(2, 3, 4);
        due("with 3, 1, 1, 1: c is 1", x.merge(2, 0), 1);
        due("0 is left", x.slot(2, 0, 0), 0);
        due("with", x.slot(2, 0, 1), 2);
        due("lost", x.told(2, 2), 3);
        x.begin(0, 8, 2, 3, 5L);
        adds(0, 6, 7);
        x.begin(1, 8, 2, 3, 5L);
        adds(1, 4, 5);
        due("all alike: none is left", x.merge(0, 1), 0);
        due("lost", x.told(0, 2), 1);
        x.begin(0, 8, 2, 3, 5L);
        due("into an empty one", x.merge(0, 1), 2);
        due("nothing lost", x.told(0, 2), 0);
        due("not an arc more", x.told(0, 0), 0);
    }

    @Says("Promise 5: merge")
    void mergeWrong() {
        adds(0, 0, 1);
        for (int s : WRONG_STREAMS) {
            due("stream " + s, x.merge(s, 0), BAD);
            due("other " + s, x.merge(0, s), BAD);
            due("both " + s, x.merge(s, s), BAD);
        }
        due("the same", x.merge(0, 0), BAD);
        x.begin(0, 6, 2, 3, 5L);
        adds(0, 0, 1);
        int[][] others = {{7, 2, 3, 5}, {6, 3, 3, 5}, {6, 2, 5, 5}, {6, 2, 3, 6}};
        for (int[] other : others) {
            x.begin(1, other[0], other[1], other[2], other[3]);
            adds(1, 0, 1);
            due("apart", x.merge(0, 1), APART);
            due("apart", x.merge(1, 0), APART);
            due("same", x.same(0, 1), APART);
        }
        due("nothing changed", x.sum(0, 0, 0, 0), 1);
        due("nothing changed", x.span(0, 0, 0), 1);
        x.begin(1, 6, 2, 3, 5L + (1L << 32));
        due("seeds differ above", x.merge(0, 1), APART);
    }

    private void copy(int from, int to) {
        x.begin(to, 4, 2, 1, 5L);
        x.merge(to, from);
    }

    @Says("Promise 5: merge")
    void mergeFullByCounts() {
        grow(4, 2, 0, 1, BILLION - 1);
        x.begin(1, 4, 2, 1, 5L);
        adds(1, 0, 1);
        due("just so many", x.merge(0, 1), 2);
        due("from", x.span(0, 1, 0), BILLION);
        due("one more", x.merge(0, 1), FULL);
        due("one more, the other way", x.merge(1, 0), FULL);
        due("counts stay", x.span(0, 0, 0), BILLION);
        due("sums stay", x.sum(0, 0, 0, 0), BILLION);
        due("the other's too", x.sum(1, 0, 0, 0), 1);
        x.begin(1, 4, 2, 1, 5L);
        adds(1, 0, 2);
        due("c not yet taken off", x.merge(0, 1), FULL);
        due("slots stay", x.told(0, 1), 2);
        x.begin(1, 4, 2, 1, 5L);
        adds(1, 2, 3);
        due("others are as many as before", x.merge(0, 1), 2);
        due("c taken off", x.span(0, 0, 0), BILLION - 1);
        due("to", x.span(0, 0, 1), BILLION);
        x.begin(1, 4, 2, 1, 5L);
        x.take(1, 0, 1);
        adds(0, 0, 1, 0, 1, 0, 1);
        due("add goes on", x.span(0, 0, 0), BILLION + 2);
        due("a count is above already", x.merge(0, 1), FULL);
    }

    @Says("Promise 5: merge")
    void mergeFullByLost() {
        grow(2, 1, 0, 1, BILLION - 1);
        due("with one slot all are lost", x.told(0, 1), 0);
        due("lost", x.told(0, 2), BILLION - 1);
        x.begin(1, 2, 1, 1, 5L);
        adds(1, 0, 1);
        due("just so many", x.merge(0, 1), 0);
        due("lost", x.told(0, 2), BILLION);
        due("to", x.span(0, 1, 1), BILLION);
        due("one more", x.merge(0, 1), FULL);
        due("one more, the other way", x.merge(1, 0), FULL);
        due("stays", x.told(0, 2), BILLION);
        due("sums stay", x.sum(0, 0, 0, 0), BILLION);
        x.begin(1, 2, 1, 1, 5L);
        x.take(1, 0, 1);
        due("none more", x.merge(0, 1), 0);
        due("sums", x.sum(0, 0, 0, 0), BILLION - 1);
    }

    @Says("Promise 5: merge")
    void mergeFullFarAbove() {
        grow(4, 2, 2, 3, BILLION);
        copy(0, 1);
        grow(4, 2, 0, 1, BILLION);
        copy(0, 2);
        due("c is a billion", x.merge(0, 1), 0);
        due("lost a billion", x.told(0, 2), BILLION);
        due("into 1", x.merge(1, 0), 2);
        due("back into 0", x.merge(0, 2), 2);
        due("from", x.span(0, 0, 0), BILLION);
        due("to", x.span(0, 0, 1), 2 * BILLION);
        due("three billions", x.merge(0, 1), FULL);
        due("three billions", x.merge(1, 0), FULL);
        due("c alone is too much", x.merge(2, 1), FULL);
        due("stays", x.told(0, 2), BILLION);
        due("stays", x.span(1, 3, 0), BILLION);
    }

    @Says("Promise 5: merge")
    void mergeRunsOver() {
        x.begin(0, 64, 3, 3, 5L);
        x.begin(1, 64, 3, 3, 5L);
        x.take(0, 62, 63);
        x.take(1, 62, 63);
        x.take(1, 63, 62);
        long key = 64 * 62 + 63;
        long first = -1;
        long second = -2;
        for (int i = 0; i < 80; i++) {
            due("rows alone are never full", x.merge(0, 1), 0);
            x.merge(1, 0);
            first += second;
            second += first;
            due("sum 0", x.sum(0, 62, 0, 0), first);
            due("sum 1", x.sum(0, 63, 0, 1), -first * key);
            due("sum 2", x.sum(1, 62, 0, 2), second * key * key);
        }
        due("nothing leads out of all", x.out(0, -1L), NOTHING);
    }

    @Says("Promise 6: told")
    void told() {
        x.begin(2, 9, 4, 3, 5L);
        adds(2, 0, 1, 1, 2, 2, 0, 3, 4, 4, 5, 0, 3);
        // 0:1 1:1 / 1:2 2:1 / 2:2 0:2 / 3:1, 4 lowers all: 0:1 1:1 2:1, 1 lost / 4:1, 5 lowers all: none, 2 lost
        tells(2, 6, 2, 2, 5, 5, 2, 9, 4, 3);
        due("what 9", x.told(2, 9), BAD);
        due("what -1", x.told(2, -1), BAD);
        due("what", x.told(2, Integer.MAX_VALUE), BAD);
        due("what", x.told(2, Integer.MIN_VALUE), BAD);
        for (int s : WRONG_STREAMS) {
            due("stream " + s, x.told(s, 0), BAD);
        }
    }

    @Says("Promise 7: span")
    void span() {
        x.begin(0, 5, 2, 1, 5L);
        adds(0, 3, 1, 1, 3, 1, 4);
        due("1 from: 3, and one less by 4", x.span(0, 1, 0), 2);
        due("1 to", x.span(0, 1, 1), 3);
        due("3 from", x.span(0, 3, 0), 1);
        due("4 from", x.span(0, 4, 0), 0);
        due("4 to", x.span(0, 4, 1), 1);
        due("0 to", x.span(0, 0, 1), 1);
        x.begin(1, 3, 2, 1, 5L);
        adds(1, 0, 1, 2, 0);
        due("a is counted first: 2 frees both, then 0 takes one", x.span(1, 0, 0), 1);
        x.begin(1, 3, 2, 1, 5L);
        adds(1, 0, 1, 0, 2);
        due("0 is two, then 2 lowers all", x.span(1, 0, 0), 1);
        due("1 is free", x.span(1, 1, 0), 0);
        due("taken", x.told(1, 1), 1);
        x.begin(1, 4, 2, 1, 5L);
        adds(1, 0, 1, 2, 3);
        due("2 frees both, 3 takes one", x.span(1, 3, 0), 1);
        due("2 has none", x.span(1, 2, 0), 0);
        x.begin(1, 4, 2, 1, 5L);
        adds(1, 0, 1, 3, 2);
        due("3 frees both, 2 takes one", x.span(1, 2, 0), 1);
        for (int s : WRONG_STREAMS) {
            due("stream " + s, x.span(s, 0, 0), BAD);
        }
        for (int wrong : new int[] {-1, 5, Integer.MIN_VALUE, Integer.MAX_VALUE}) {
            due("node " + wrong, x.span(0, wrong, 0), BAD);
            due("end " + wrong, x.span(0, 0, wrong), BAD);
        }
        due("end 2", x.span(0, 0, 2), BAD);
    }

    @Says("Promise 8: slot")
    void slot() {
        x.begin(0, 64, 5, 1, 5L);
        adds(0, 9, 5, 63, 9, 5, 2, 2, 7);
        int[] nodes = {2, 5, 9, 7, 63};
        int[] counts = {2, 2, 2, 1, 1};
        for (int i = 0; i < 5; i++) {
            due("node of " + i, x.slot(0, i, 0), nodes[i]);
            due("count of " + i, x.slot(0, i, 1), counts[i]);
        }
        for (int wrong : new int[] {-1, 5, 16, Integer.MIN_VALUE, Integer.MAX_VALUE}) {
            due("i " + wrong, x.slot(0, wrong, 0), BAD);
            due("what " + wrong, x.slot(0, 0, wrong), BAD);
        }
        due("what 2", x.slot(0, 0, 2), BAD);
        for (int s : WRONG_STREAMS) {
            due("stream " + s, x.slot(s, 0, 0), BAD);
        }
        adds(0, 30, 31);
        due("30 lowered all, 31 took one", x.told(0, 1), 4);
        due("31 is last", x.slot(0, 3, 0), 31);
        due("no fifth", x.slot(0, 4, 0), BAD);
    }

    @Says("Promise 9: parts")
    void parts() {
        x.begin(0, 6, 2, 3, 5L);
        adds(0, 4, 5, 1, 2, 2, 3, 3, 1, 5, 3);
        int[] parts = {6, 5, 4, 3, 3, 2, 2};
        int[] leastOf5 = {5, 3, 1, 1, 1, 1, 1};
        for (int n = 0; n <= 6; n++) {
            due("parts " + n, x.parts(0, n), parts[n]);
            due("part of 5 by " + n, x.part(0, n, 5), leastOf5[n]);
            due("part of 0 by " + n, x.part(0, n, 0), 0);
        }
        due("all", x.parts(0, Integer.MAX_VALUE), 2);
        due("all", x.part(0, Integer.MAX_VALUE, 4), 1);
        for (int s : WRONG_STREAMS) {
            due("stream " + s, x.parts(s, 0), BAD);
            due("stream " + s, x.part(s, 0, 0), BAD);
        }
        due("n -1", x.parts(0, -1), BAD);
        due("n least", x.parts(0, Integer.MIN_VALUE), BAD);
        due("n -1", x.part(0, -1, 0), BAD);
        due("n least", x.part(0, Integer.MIN_VALUE, 0), BAD);
        for (int wrong : new int[] {-1, 6, Integer.MIN_VALUE, Integer.MAX_VALUE}) {
            due("node " + wrong, x.part(0, 1, wrong), BAD);
        }
        x.begin(1, 64, 2, 3, 5L);
        for (int node = 62; node >= 0; node--) {
            x.add(1, node, node + 1);
        }
        due("a long way", x.part(1, 63, 63), 0);
        due("one less", x.part(1, 62, 63), 63);
        due("one part", x.parts(1, 63), 1);
    }

    @Says("Promise 11: tree")
    void tree() {
        x.begin(0, 6, 2, 3, 5L);
        adds(0, 5, 4, 1, 2, 2, 3, 3, 1, 5, 4);
        int[][] arcs = {{3, 2, 3}, {4, 1, 3}, {5, 4, 5}};
        due("size", x.told(0, 3), 3);
        for (int i = 0; i < 3; i++) {
            for (int what = 0; what < 3; what++) {
                due("tree " + i + " " + what, x.tree(0, i, what), arcs[i][what]);
            }
        }
        for (int wrong : new int[] {-1, 3, 63, 64, Integer.MIN_VALUE, Integer.MAX_VALUE}) {
            due("i " + wrong, x.tree(0, wrong, 0), BAD);
            due("what " + wrong, x.tree(0, 0, wrong), BAD);
        }
        for (int s : WRONG_STREAMS) {
            due("stream " + s, x.tree(s, 0, 0), BAD);
        }
        x.begin(1, 64, 2, 3, 5L);
        for (int node = 0; node < 64; node++) {
            x.add(1, node, (node + 1) % 64);
        }
        due("a ring's oldest goes", x.tree(1, 0, 0), 2);
        due("63 stay", x.told(1, 3), 63);
        due("the latest", x.tree(1, 62, 0), 64);
    }

    @Says("Promise 12: since")
    void since() {
        x.begin(0, 6, 2, 3, 5L);
        adds(0, 4, 5, 1, 2, 2, 3, 3, 1, 5, 3);
        due("by the last", x.since(0, 3, 5), 1);
        due("by the last two", x.since(0, 1, 5), 2);
        due("by three", x.since(0, 2, 1), 3);
        due("by all", x.since(0, 4, 2), 5);
        due("itself", x.since(0, 0, 0), 0);
        due("never", x.since(0, 0, 5), NONE);
        adds(0, 4, 5);
        due("again", x.since(0, 4, 5), 1);
        due("all are one older", x.since(0, 2, 1), 4);
        for (int s : WRONG_STREAMS) {
            due("stream " + s, x.since(s, 0, 1), BAD);
        }
        for (int wrong : new int[] {-1, 6, Integer.MIN_VALUE, Integer.MAX_VALUE}) {
            due("a " + wrong, x.since(0, wrong, 1), BAD);
            due("b " + wrong, x.since(0, 1, wrong), BAD);
            due("both " + wrong, x.since(0, wrong, wrong), BAD);
        }
    }

    @Says("Promise 13: far")
    void far() {
        x.begin(0, 64, 2, 1, 5L);
        for (int node = 0; node < 62; node++) {
            x.add(0, node + 1, node);
        }
        due("itself", x.far(0, 5, 5), 0);
        due("one", x.far(0, 5, 6), 1);
        due("longest", x.far(0, 0, 62), 62);
        due("none", x.far(0, 63, 0), NONE);
        due("alone to itself", x.far(0, 63, 63), 0);
        adds(0, 62, 63);
        due("longest of all", x.far(0, 63, 0), 63);
        adds(0, 63, 0);
        due("the short way", x.far(0, 1, 63), 2);
        x.take(0, 0, 1);
        due("take changes nothing", x.far(0, 0, 1), 1);
        for (int s : WRONG_STREAMS) {
            due("stream " + s, x.far(s, 0, 1), BAD);
        }
        for (int wrong : new int[] {-1, 64, Integer.MIN_VALUE, Integer.MAX_VALUE}) {
            due("a " + wrong, x.far(0, wrong, 1), BAD);
            due("b " + wrong, x.far(0, 1, wrong), BAD);
            due("both " + wrong, x.far(0, wrong, wrong), BAD);
        }
    }

    /** A ring closes just if the rest of it is longer than the stretch. */
    @Says("Promise 13: far")
    void stretches() {
        for (int stretch = 1; stretch <= 7; stretch += 2) {
            for (int ring = 3; ring <= 10; ring++) {
                x.begin(0, 10, 2, stretch, 5L);
                for (int node = 0; node < ring; node++) {
                    x.add(0, node, (node + 1) % ring);
                }
                boolean closed = ring - 1 > stretch;
                due("ring " + ring + " by " + stretch, x.told(0, 4), closed ? ring : ring - 1);
                due("ring " + ring + " by " + stretch, x.far(0, ring - 1, 0), closed ? 1 : ring - 1);
                x.add(0, 1, 0);
                due("not twice", x.told(0, 4), closed ? ring : ring - 1);
            }
        }
    }

    @Says("Promise 14: kept")
    void kept() {
        x.begin(0, 6, 2, 3, 5L);
        adds(0, 5, 4, 1, 2, 4, 5, 2, 3, 3, 1, 0, 5);
        int[][] arcs = {{4, 5, 1}, {1, 2, 2}, {2, 3, 4}, {0, 5, 6}};
        due("size", x.told(0, 4), 4);
        for (int i = 0; i < 4; i++) {
            for (int what = 0; what < 3; what++) {
                due("kept " + i + " " + what, x.kept(0, i, what), arcs[i][what]);
            }
        }
        for (int wrong : new int[] {-1, 4, 511, 512, Integer.MIN_VALUE, Integer.MAX_VALUE}) {
            due("i " + wrong, x.kept(0, wrong, 0), BAD);
            due("what " + wrong, x.kept(0, 0, wrong), BAD);
        }
        due("what 3", x.kept(0, 0, 3), BAD);
        for (int s : WRONG_STREAMS) {
            due("stream " + s, x.kept(s, 0, 0), BAD);
        }
    }

    @Says("Promise 15: mate")
    void mate() {
        x.begin(0, 7, 2, 3, 5L);
        adds(0, 5, 1, 1, 2, 2, 5, 3, 2, 3, 4, 6, 4);
        int[] mates = {NONE, 5, 3, 2, 6, 1, 4};
        for (int node = 0; node < 7; node++) {
            due("mate " + node, x.mate(0, node), mates[node]);
        }
        due("pairs", x.told(0, 5), 3);
        x.take(0, 1, 5);
        due("take changes nothing", x.mate(0, 1), 5);
        for (int s : WRONG_STREAMS) {
            due("stream " + s, x.mate(s, 0), BAD);
        }
        for (int wrong : new int[] {-1, 7, 63, 64, Integer.MIN_VALUE, Integer.MAX_VALUE}) {
            due("node " + wrong, x.mate(0, wrong), BAD);
        }
    }

    @Says("Promise 16: sum")
    void sum() {
        x.begin(0, 64, 2, 3, 5L);
        adds(0, 1, 0, 63, 62, 0, 1);
        long key = 64 * 62 + 63;
        due("a 0", x.sum(0, 0, 3, 0), 2);
        due("a 1", x.sum(0, 0, 0, 1), 2);
        due("above its level", x.sum(0, 0, 4, 0), 0);
        due("b 0", x.sum(0, 63, 0, 0), -1);
        due("b 1", x.sum(0, 63, 0, 1), -key);
        due("b 2", x.sum(0, 63, 0, 2), -key * key);
        due("a 2", x.sum(0, 62, 0, 2), key * key);
        int top = Model.levelOf(5L, (int) key);
        for (int level = 0; level < 10; level++) {
            due("level " + level, x.sum(0, 62, level, 0), level <= top ? 1 : 0);
        }
        x.begin(1, 2, 1, 1, -2L * GOLDEN);
        adds(1, 0, 1);
        due("level 9", x.sum(1, 0, 9, 0), 1);
        due("no level 10", x.sum(1, 0, 10, 0), 0);
        due("no level -1", x.sum(1, 1, -1, 0), 0);
        due("no sum 3", x.sum(1, 0, 0, 3), 0);
        due("no sum -1", x.sum(1, 1, 0, -1), 0);
        due("no node 2", x.sum(1, 2, 0, 0), 0);
        for (int wrong : WRONG_STREAMS) {
            due("stream " + wrong, x.sum(wrong, 0, 0, 0), 0);
            int far = wrong == 3 ? 70 : wrong;
            due("node " + wrong, x.sum(0, far, 0, 0), 0);
            due("level " + wrong, x.sum(0, 0, far, 0), 0);
            due("which " + wrong, x.sum(0, 0, 0, wrong), 0);
        }
    }

    @Says("Promise 17: out")
    void out() {
        x.begin(0, 6, 2, 3, 5L);
        adds(0, 3, 1);
        due("of a", x.out(0, 1L << 1), 67);
        due("of b", x.out(0, 1L << 3), 67);
        due("of a and others", x.out(0, 0b000111), 67);
        due("of b and others", x.out(0, 0b111100), 67);
        due("of both", x.out(0, 0b001010), NOTHING);
        due("of neither", x.out(0, 0b110101), NOTHING);
        due("of none", x.out(0, 0L), NOTHING);
        due("of all", x.out(0, 0b111111), NOTHING);
        adds(0, 1, 3);
        due("twice the same", x.out(0, 1L << 1), UNSURE);
        x.take(0, 1, 3);
        due("once again", x.out(0, 1L << 1), 67);
        x.take(0, 1, 3);
        due("left", x.out(0, 1L << 1), NOTHING);
        x.take(0, 1, 2);
        due("one that never came, of a", x.out(0, 1L << 1), UNSURE);
        due("one that never came, of b", x.out(0, 1L << 2), UNSURE);
        for (int s : WRONG_STREAMS) {
            due("stream " + s, x.out(s, 1L), BAD);
        }
        x.begin(1, 64, 2, 3, 5L);
        adds(1, 63, 62);
        due("of 63", x.out(1, Long.MIN_VALUE), 64 * 62 + 63);
        due("of all but 63", x.out(1, Long.MAX_VALUE), 64 * 62 + 63);
        due("of all", x.out(1, -1L), NOTHING);
    }

    /** A seed by which the arcs of a node to greater ones have level 0. */
    private static long seedOfLowLevels(int from, int[] some, int[] others) {
        long seed = 0;
        while (!allLow(seed, from, some) || !allLow(seed, from, others)) {
            seed++;
        }
        return seed;
    }

    private static boolean allLow(long seed, int from, int[] nodes) {
        boolean low = true;
        for (int node : nodes) {
            low &= Model.levelOf(seed, 64 * from + node) == 0;
        }
        return low;
    }

    /** Out of a set by arcs of one node to greater ones, some added and others taken away. */
    private int outByMix(int nodes, int from, long set, int[] added, int[] taken) {
        x.begin(0, nodes, 2, 3, seedOfLowLevels(from, added, taken));
        for (int node : added) {
            x.add(0, from, node);
        }
        for (int node : taken) {
            x.take(0, node, from);
        }
        return x.out(0, set);
    }

    /** Sums that look like one arc's, though there are more. */
    @Says("Promise 17: out")
    void outOfNoKey() {
        int[] one = {1, 5, 6};
        int[] two = {2, 3};
        due("1 + 5 + 6 - 2 - 3 is key 7, squares too", outByMix(8, 0, 1L, one, two), 7);
        due("the other way round", outByMix(8, 0, 0b01111110L, one, two), UNSURE);
        due("but there is no node 7", outByMix(7, 0, 1L, one, two), UNSURE);
        due("but 7 is in the set", outByMix(8, 0, 0b10000001L, one, two), UNSURE);
        due("squares are not those of 2", outByMix(8, 0, 1L, new int[] {1, 4}, new int[] {3}), UNSURE);
        due("0 is no key", outByMix(8, 0, 1L, new int[] {1, 2, 6}, new int[] {4, 5}), UNSURE);
        due("-1 is no key", outByMix(16, 0, 1L, new int[] {1, 3, 11}, new int[] {7, 9}), UNSURE);
        due("64 is no key", outByMix(64, 1, 2L, new int[] {2, 4, 12}, new int[] {8, 10}), UNSURE);
        due("count 0, sums not", outByMix(8, 0, 1L, new int[] {1}, new int[] {3}), UNSURE);
        due("count and sum 0", outByMix(8, 0, 1L, new int[] {1, 4}, new int[] {2, 3}), UNSURE);
        due("count and squares 0", outByMix(9, 0, 1L, new int[] {1, 8}, new int[] {4, 7}), UNSURE);
        due("all are 0", outByMix(8, 0, 1L, one, new int[] {2, 3, 7}), NOTHING);
    }

    @Says("Promise 17: out")
    void outByGreatestLevel() {
        // By seed 5 the arc of 0 and 1 has level 3.
        x.begin(0, 64, 2, 3, 5L);
        int low = 2;
        while (Model.levelOf(5L, low) != 0) {
            low++;
        }
        int mid = 2;
        while (Model.levelOf(5L, mid) != 1) {
            mid++;
        }
        adds(0, 0, low);
        due("alone", x.out(0, 1L), low);
        due("by", x.level(), 0);
        adds(0, 0, mid);
        due("the higher", x.out(0, 1L), mid);
        due("by", x.level(), 1);
        adds(0, 0, 1);
        due("the highest", x.out(0, 1L), 1);
        due("by", x.level(), 3);
        adds(0, 0, 1);
        due("twice: no level", x.out(0, 1L), UNSURE);
        due("by", x.level(), NONE);
        x.take(0, 0, 1);
        x.take(0, 0, 1);
        due("again the higher", x.out(0, 1L), mid);
    }

    @Says("Promise 17: out")
    void outOtherBits() {
        x.begin(0, 64, 2, 3, 5L);
        x.begin(0, 4, 2, 3, 5L);
        adds(0, 0, 1, 2, 3);
        due("one", x.out(0, 0b0001L), 1);
        due("bits above", x.out(0, ~0b1110L), 1);
        due("bits above alone", x.out(0, ~0b1111L), NOTHING);
        due("all", x.out(0, -1L), NOTHING);
    }

    @Says("Promise 18: level")
    void level() {
        due("none was", x.level(), NONE);
        x.begin(0, 6, 2, 3, 5L);
        adds(0, 0, 1);
        due("none was yet", x.level(), NONE);
        due("out", x.out(0, 1L), 1);
        due("told by 3", x.level(), 3);
        due("still", x.level(), 3);
        due("refused", x.out(3, 1L), BAD);
        due("what is refused changes nothing", x.level(), 3);
        x.begin(0, 6, 2, 3, 5L);
        due("it was the latest yet", x.level(), 3);
        due("out", x.out(1, 1L), NOTHING);
        due("it told none", x.level(), NONE);
        adds(0, 0, 1);
        due("out", x.out(0, 2L), 1);
        due("told by 3", x.level(), 3);
        adds(0, 0, 1);
        due("out", x.out(0, 2L), UNSURE);
        due("it told none", x.level(), NONE);
    }

    @Says("Promise 19: same")
    void same() {
        for (int s = 0; s < 3; s++) {
            x.begin(s, 64, 2, 3, 5L);
        }
        due("empty", x.same(0, 1), 1);
        adds(0, 0, 1, 62, 63);
        due("not", x.same(0, 1), 0);
        due("itself", x.same(0, 0), 1);
        adds(1, 63, 62, 0, 1);
        due("in any order", x.same(0, 1), 1);
        x.take(0, 62, 63);
        due("one is gone", x.same(1, 0), 0);
        x.take(1, 62, 63);
        due("of both", x.same(1, 0), 1);
        x.merge(2, 0);
        due("put together", x.same(2, 1), 1);
        for (int s : WRONG_STREAMS) {
            due("stream " + s, x.same(s, 0), BAD);
            due("other " + s, x.same(0, s), BAD);
            due("both " + s, x.same(s, s), BAD);
        }
        x.begin(1, 63, 2, 3, 5L);
        due("apart", x.same(0, 1), APART);
        due("bad before apart", x.same(1, 3), BAD);
    }
}
