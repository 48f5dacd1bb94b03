import java.util.ArrayList;
import java.util.Arrays;
import java.util.List;
import java.util.Random;

/** What the document's first sentence says of each part, over whole streams of arcs. */
public final class WhatItIsTest extends Scene {
    private static final int[] STRETCHES = {1, 3, 5, 7};
    private static final int NO_WAY = 1000;

    private final List<int[]> came = new ArrayList<>();

    public static void main(String[] args) throws Exception {
        play(WhatItIsTest.class);
    }

    /** Arcs to stream 0, of lesser nodes more often than of greater ones. */
    private void stream(Random random, int nodes, int arcs) {
        for (int i = 0; i < arcs; i++) {
            int a = random.nextInt(1 + random.nextInt(nodes));
            int b = (a + 1 + random.nextInt(nodes - 1)) % nodes;
            came.add(new int[] {a, b});
            x.add(0, a, b);
        }
    }

    private void renewAll(int nodes, int slots, int stretch) {
        renew();
        came.clear();
        for (int s = 0; s < 3; s++) {
            x.begin(s, nodes, slots, stretch, 5L);
        }
    }

    private int arcsWith(int node) {
        int arcs = 0;
        for (int[] arc : came) {
            arcs += arc[0] == node || arc[1] == node ? 1 : 0;
        }
        return arcs;
    }

    private void holdsIn(String call, boolean holds) {
        due(call, holds ? 1 : 0, 1);
    }

    @Says("counters of the busiest nodes with spans that always hold")
    void spansHoldAndTheBusiestHaveSlots() {
        for (int slots = 1; slots <= 16; slots++) {
            renewAll(30, slots, 3);
            stream(new Random(slots), 30, 300);
            int lost = x.told(0, 2);
            // Each time that counts are lost, those of all slots and one more are.
            holdsIn("little is lost", (long) lost * (slots + 1) <= 2L * came.size());
            for (int node = 0; node < 30; node++) {
                int from = x.span(0, node, 0);
                holdsIn("from " + node, from <= arcsWith(node));
                holdsIn("to " + node, x.span(0, node, 1) >= arcsWith(node));
                holdsIn("a busy one has a slot", from > 0 || arcsWith(node) <= lost);
            }
        }
    }

    /** Each node's least node by the last n arcs, found without the forest. */
    private int[] leastNodes(int nodes, int n) {
        int[] least = new int[nodes];
        Arrays.setAll(least, node -> node);
        for (int i = Math.max(0, came.size() - n); i < came.size(); i++) {
            int one = least[came.get(i)[0]], two = least[came.get(i)[1]];
            for (int node = 0; node < nodes; node++) {
                least[node] = least[node] == one || least[node] == two ? Math.min(one, two) : least[node];
            }
        }
        return least;
    }

    @Says("a forest by which the parts of any last stretch of the stream are told")
    void partsOfAnyLastStretch() {
        for (int nodes : new int[] {2, 7, 30, 64}) {
            renewAll(nodes, 2, 3);
            stream(new Random(nodes), nodes, 150);
            for (int n = 0; n <= 151; n++) {
                int[] least = leastNodes(nodes, n);
                int node = n % nodes;
                due("parts by " + n, x.parts(0, n), Arrays.stream(least).distinct().count());
                due("part by " + n + " of " + node, x.part(0, n, node), least[node]);
            }
        }
    }

    /** How far all nodes are from one, by all the arcs that came. */
    private int[] distances(int nodes, int from) {
        int[] far = new int[nodes];
        Arrays.fill(far, NO_WAY);
        far[from] = 0;
        for (int round = 0; round < nodes; round++) {
            for (int[] arc : came) {
                far[arc[0]] = Math.min(far[arc[0]], far[arc[1]] + 1);
                far[arc[1]] = Math.min(far[arc[1]], far[arc[0]] + 1);
            }
        }
        return far;
    }

    @Says("a thinned graph in which ways are at most so many times longer")
    void waysAreAtMostStretchTimesLonger() {
        for (int stretch : STRETCHES) {
            for (int arcs : new int[] {10, 20, 60, 200}) {
                renewAll(16, 2, stretch);
                stream(new Random(arcs), 16, arcs);
                for (int a = 0; a < 16; a++) {
                    int[] all = distances(16, a);
                    for (int b = a; b < 16; b++) {
                        int far = x.far(0, a, b);
                        holdsIn("far " + a + " " + b, all[b] == NO_WAY
                            ? far == NONE : far >= all[b] && far <= stretch * all[b]);
                    }
                }
            }
        }
    }

    @Says("a matching")
    void matesAreJoinedAndNoArcIsLeftThatCouldJoin() {
        for (int nodes : new int[] {2, 9, 64}) {
            renewAll(nodes, 2, 3);
            stream(new Random(nodes), nodes, 80);
            for (int[] arc : came) {
                holdsIn("one of them has a mate", x.mate(0, arc[0]) != NONE || x.mate(0, arc[1]) != NONE);
            }
            for (int node = 0; node < nodes; node++) {
                int mate = x.mate(0, node);
                if (mate != NONE) {
                    due("mate of its mate", x.mate(0, mate), node);
                    int one = node;
                    holdsIn("an arc joins them", came.stream().anyMatch(arc ->
                        arc[0] == one && arc[1] == mate || arc[1] == one && arc[0] == mate));
                }
            }
        }
    }

    @Says("rows of sums that arcs may leave again")
    void whenAllHaveLeftTheRowsAreAsAtFirst() {
        x.begin(1, 64, 2, 3, 5L);
        x.begin(0, 64, 2, 3, 5L);
        stream(new Random(1), 64, 200);
        due("not as at first", x.same(0, 1), 0);
        for (int i = came.size() - 1; i >= 0; i -= 2) {
            x.take(0, came.get(i)[1], came.get(i)[0]);
        }
        due("half have left", x.same(0, 1), 0);
        for (int i = 0; i < came.size(); i += 2) {
            x.take(0, came.get(i)[0], came.get(i)[1]);
        }
        due("all have left", x.same(0, 1), 1);
        due("nothing leads out", x.out(0, 0x0123456789ABCDEFL), NOTHING);
    }

    @Says("which tell an arc that leads out of a set")
    void theOneArcThatLeadsOutIsTold() {
        Random random = new Random(2);
        for (int run = 0; run < 40; run++) {
            renewAll(64, 2, 3);
            long set = 0xF0F0F0F0F0F0F0F0L;
            for (int i = 0; i < 200; i++) {
                int a = random.nextInt(64), b = random.nextInt(64);
                if ((set >>> a & 1) == (set >>> b & 1)) {
                    x.add(0, a, b);
                }
            }
            int in = random.nextInt(8) * 8 + 4 + random.nextInt(4);
            int outside = random.nextInt(8) * 8 + random.nextInt(4);
            int key = 64 * Math.min(in, outside) + Math.max(in, outside);
            due("none leads out", x.out(0, set), NOTHING);
            x.add(0, in, outside);
            due("out of the set", x.out(0, set), key);
            due("by its level", x.level(), Model.levelOf(5L, key));
            due("out of the others", x.out(0, ~set), key);
            x.take(0, outside, in);
            due("none leads out again", x.out(0, set), NOTHING);
        }
    }

    @Says("counters and rows of two streams are put together")
    void twoHalvesPutTogetherAreAsTheWhole() {
        for (int slots : new int[] {1, 4, 16}) {
            renewAll(20, slots, 3);
            stream(new Random(slots), 20, 150);
            for (int i = 0; i < came.size(); i++) {
                x.add(1 + i % 2, came.get(i)[0], came.get(i)[1]);
            }
            int taken = x.merge(1, 2);
            holdsIn("slots", taken <= slots);
            due("rows of the whole", x.same(0, 1), 1);
            for (int node = 0; node < 20; node++) {
                holdsIn("from " + node, x.span(1, node, 0) <= arcsWith(node));
                holdsIn("to " + node, x.span(1, node, 1) >= arcsWith(node));
            }
            holdsIn("little is lost", (long) x.told(1, 2) * (slots + 1) <= 2L * came.size());
        }
    }
}
