/** What numbers are taken: the bounds of streams, nodes, slots, stretches and seeds, and the limit of calls. */
public final class BoundsEdgeTest extends Scene {
    public static void main(String[] args) throws Exception {
        play(BoundsEdgeTest.class);
    }

    // ---- an object is used for at most 512 calls

    @Says("An object is used for at most 512 calls after it has been made")
    void the512thCallIsAnArcThatComes() {
        for (int time = 1; time <= 512; time++) {
            due("add " + time, x.add(0, time % 2, 1 - time % 2), time);
        }
        due("calls", x.calls, 512);
    }

    @Says("An object is used for at most 512 calls after it has been made")
    void the512thCallTellsTheLastOfAllArcsKept() {
        x.begin(0, 64, 16, 1, 5L);
        int lastA = 0, lastB = 0;
        for (int a = 0; a < 63; a++) {
            for (int b = a + 1; b < 64 && x.calls < 508; b++) {
                x.add(0, b, a);
                lastA = a;
                lastB = b;
            }
        }
        due("all are kept", x.told(0, 4), 507);
        due("lesser", x.kept(0, 506, 0), lastA);
        due("greater", x.kept(0, 506, 1), lastB);
        due("its time", x.kept(0, 506, 2), 507);
        due("calls", x.calls, 512);
    }

    @Says("An object is used for at most 512 calls after it has been made")
    void the512thCallFindsTheOldestOfAllArcs() {
        x.begin(0, 4, 2, 1, 5L);
        x.add(0, 0, 1);
        while (x.calls < 509) {
            x.add(0, 2, 3);
        }
        due("by all 508", x.since(0, 0, 1), 508);
        due("without the first", x.parts(0, 507), 3);
        due("with it", x.parts(0, 508), 2);
        due("calls", x.calls, 512);
    }

    @Says("An object is used for at most 512 calls after it has been made")
    void the512thCallOutOf512Others() {
        while (x.calls < 255) {
            x.add(1, 0, 1);
        }
        while (x.calls < 509) {
            x.take(1, 1, 0);
        }
        due("one is left", x.out(1, 2L), 1);
        due("by level 2", x.level(), 2);
        due("its sum", x.sum(1, 1, 2, 1), -1);
        due("calls", x.calls, 512);
    }

    @Says("An object is used for at most 512 calls after it has been made")
    void the512thCallBegins() {
        while (x.calls < 511) {
            x.begin(2, 64, 16, 7, x.calls);
        }
        due("begin", x.begin(2, 2, 1, 1, 0L), 0);
        due("calls", x.calls, 512);
    }

    // ---- streams

    @Says("STREAMS 0, 1, 2 each have")
    void streams0To2AreTakenByEachCall() {
        for (int s = 0; s < 3; s++) {
            int other = (s + 1) % 3;
            due("begin", x.begin(s, 2, 1, 1, 0L), 0);
            due("add", x.add(s, 0, 1), 1);
            due("take", x.take(s, 0, 1), 2);
            due("told", x.told(s, 0), 1);
            due("span", x.span(s, 0, 1), 1);
            due("parts", x.parts(s, 1), 1);
            due("part", x.part(s, 1, 1), 0);
            due("tree", x.tree(s, 0, 0), 1);
            due("since", x.since(s, 0, 1), 1);
            due("far", x.far(s, 0, 1), 1);
            due("kept", x.kept(s, 0, 2), 1);
            due("mate", x.mate(s, 0), 1);
            due("out", x.out(s, 1L), NOTHING);
            due("same", x.same(s, other), 1);
            due("merge", x.merge(s, other), 0);
            x.add(s, 0, 1);
            due("sum", x.sum(s, 1, 0, 0), -1);
            x.begin(s, 2, 2, 1, 0L);
            x.add(s, 0, 1);
            due("slot", x.slot(s, 1, 0), 1);
            x.begin(s, 2, 1, 1, 0L);
        }
    }

    @Says("BAD (a number is not as told, there is no such thing)")
    void noOtherStreamIsTakenByAnyCall() {
        for (int s : WRONG_STREAMS) {
            due("begin " + s, x.begin(s, 2, 1, 1, 0L), BAD);
            due("add " + s, x.add(s, 0, 1), BAD);
            due("take " + s, x.take(s, 0, 1), BAD);
            due("merge " + s, x.merge(s, 0), BAD);
            due("merge with " + s, x.merge(0, s), BAD);
            due("told " + s, x.told(s, 0), BAD);
            due("span " + s, x.span(s, 0, 0), BAD);
            due("slot " + s, x.slot(s, 0, 0), BAD);
            due("parts " + s, x.parts(s, 0), BAD);
            due("part " + s, x.part(s, 0, 0), BAD);
            due("tree " + s, x.tree(s, 0, 0), BAD);
            due("since " + s, x.since(s, 0, 0), BAD);
            due("far " + s, x.far(s, 0, 0), BAD);
            due("kept " + s, x.kept(s, 0, 0), BAD);
            due("mate " + s, x.mate(s, 0), BAD);
            due("sum " + s, x.sum(s, 0, 0, 0), 0);
            due("out " + s, x.out(s, 0L), BAD);
            due("same " + s, x.same(s, 0), BAD);
            due("same as " + s, x.same(0, s), BAD);
        }
    }

    @Says("STREAMS 0, 1, 2 each have")
    void eachStreamIsOnItsOwn() {
        x.begin(0, 5, 2, 3, 5L);
        x.begin(2, 7, 3, 5, 6L);
        adds(0, 0, 1, 2, 3);
        adds(2, 5, 6);
        tells(0, 2, 1, 1, 2, 2, 2, 5, 2, 3);
        tells(1, 0, 0, 0, 0, 0, 0, 2, 1, 1);
        tells(2, 1, 2, 0, 1, 1, 1, 7, 3, 5);
    }

    // ---- nodes

    @Says("N is 2 .. 64")
    void each2To64NodesAreTaken() {
        for (int nodes = 2; nodes <= 64; nodes++) {
            due("begin " + nodes, x.begin(1, nodes, 3, 3, 5L), 0);
            due("N", x.told(1, 6), nodes);
            due("parts", x.parts(1, 0), nodes);
        }
    }

    @Says("N is 2 .. 64")
    void lessThan2NodesAreTooFew() {
        for (int nodes : new int[] {1, 0, -1, -2, -64, LEAST}) {
            due("begin " + nodes, x.begin(1, nodes, 1, 1, 0L), BAD);
        }
        due("N", x.told(1, 6), 2);
    }

    @Says("N is 2 .. 64")
    void moreThan64NodesAreTooMany() {
        for (int nodes : new int[] {65, 66, 128, 258, MOST}) {
            due("begin " + nodes, x.begin(1, nodes, 1, 1, 0L), BAD);
        }
        due("N", x.told(1, 6), 2);
    }

    @Says("NODES 0 .. N - 1")
    void theFirstAndTheLastNodeAreTakenByEachCall() {
        for (int nodes : new int[] {2, 3, 63, 64}) {
            int last = nodes - 1;
            x.begin(0, nodes, 2, 3, 0L);
            due("add", x.add(0, last, 0), 1);
            due("span of the first", x.span(0, 0, 0), 1);
            due("span of the last", x.span(0, last, 0), 1);
            due("part of the first", x.part(0, 1, 0), 0);
            due("part of the last", x.part(0, 1, last), 0);
            due("since", x.since(0, last, 0), 1);
            due("far", x.far(0, last, 0), 1);
            due("mate of the first", x.mate(0, 0), last);
            due("mate of the last", x.mate(0, last), 0);
            due("sum of the first", x.sum(0, 0, 0, 1), last);
            due("sum of the last", x.sum(0, last, 0, 1), -last);
            due("out of the last", x.out(0, 1L << last), last);
            due("take", x.take(0, 0, last), Model.levelOf(0L, last));
            due("is gone", x.out(0, 1L << last), NOTHING);
        }
    }

    @Says("BAD: no such STREAM, NODES, the same twice.")
    void noOtherNodeIsTakenByAnyCall() {
        for (int nodes : new int[] {2, 5, 64}) {
            x.begin(0, 64, 2, 3, 5L);
            ring(0, 64);
            x.begin(0, nodes, 2, 3, 5L);
            x.add(0, 0, 1);
            for (int node : new int[] {-1, nodes, nodes + 1, LEAST, MOST}) {
                due("add a " + node, x.add(0, node, 0), BAD);
                due("add b " + node, x.add(0, 0, node), BAD);
                due("take a " + node, x.take(0, node, 0), BAD);
                due("take b " + node, x.take(0, 0, node), BAD);
                due("span " + node, x.span(0, node, 1), BAD);
                due("part " + node, x.part(0, 1, node), BAD);
                due("since a " + node, x.since(0, node, 0), BAD);
                due("since b " + node, x.since(0, 0, node), BAD);
                due("far a " + node, x.far(0, node, 0), BAD);
                due("far b " + node, x.far(0, 0, node), BAD);
                due("mate " + node, x.mate(0, node), BAD);
                due("sum " + node, x.sum(0, node, 0, 0), 0);
            }
        }
    }

    // ---- slots, stretch, seed

    @Says("SLOTS (1 .. 16)")
    void each1To16SlotsAreTaken() {
        for (int slots = 1; slots <= 16; slots++) {
            due("begin " + slots, x.begin(1, 2, slots, 3, 5L), 0);
            due("SLOTS", x.told(1, 7), slots);
        }
    }

    @Says("SLOTS (1 .. 16)")
    void lessThan1SlotIsTooFew() {
        for (int slots : new int[] {0, -1, -16, LEAST}) {
            due("begin " + slots, x.begin(1, 5, slots, 3, 5L), BAD);
        }
        due("SLOTS", x.told(1, 7), 1);
    }

    @Says("SLOTS (1 .. 16)")
    void moreThan16SlotsAreTooMany() {
        for (int slots : new int[] {17, 18, 32, 257, MOST}) {
            due("begin " + slots, x.begin(1, 64, slots, 3, 5L), BAD);
        }
        due("SLOTS", x.told(1, 7), 1);
    }

    @Says("a STRETCH (1, 3, 5 or 7)")
    void stretches1And3And5And7AreTaken() {
        for (int stretch : new int[] {1, 3, 5, 7}) {
            due("begin " + stretch, x.begin(1, 5, 2, stretch, 5L), 0);
            due("STRETCH", x.told(1, 8), stretch);
        }
    }

    @Says("a STRETCH (1, 3, 5 or 7)")
    void noStretchBetweenThemIsTaken() {
        for (int stretch : new int[] {2, 4, 6}) {
            due("begin " + stretch, x.begin(1, 5, 2, stretch, 5L), BAD);
        }
        due("STRETCH", x.told(1, 8), 1);
    }

    @Says("a STRETCH (1, 3, 5 or 7)")
    void noLesserStretchIsTaken() {
        for (int stretch : new int[] {0, -1, -3, -7, LEAST, LEAST + 1}) {
            due("begin " + stretch, x.begin(1, 5, 2, stretch, 5L), BAD);
        }
        due("STRETCH", x.told(1, 8), 1);
    }

    @Says("a STRETCH (1, 3, 5 or 7)")
    void noGreaterStretchIsTaken() {
        for (int stretch : new int[] {8, 9, 11, 257, MOST}) {
            due("begin " + stretch, x.begin(1, 5, 2, stretch, 5L), BAD);
        }
        due("STRETCH", x.told(1, 8), 1);
    }

    @Says("a SEED (a long)")
    void anyLongIsASeed() {
        long[] seeds = {0L, 1L, -1L, Long.MIN_VALUE, Long.MAX_VALUE, 1L << 32, (1L << 32) + 5, -5L};
        for (long seed : seeds) {
            due("begin " + seed, x.begin(1, 64, 2, 3, seed), 0);
            due("add", x.add(1, 0, 2), 1);
            due("level of 0, 2", x.take(1, 0, 2), Model.levelOf(seed, 2));
            due("level of 62, 63", x.take(1, 62, 63), Model.levelOf(seed, 4031));
            x.begin(1, 2, 1, 1, 0L);
        }
    }

    @Says("a SEED (a long)")
    void seedsDifferInAnyOfTheir64Bits() {
        x.begin(0, 4, 2, 3, 5L);
        for (int bit = 0; bit < 64; bit++) {
            x.begin(1, 4, 2, 3, 5L ^ 1L << bit);
            due("merge, bit " + bit, x.merge(0, 1), APART);
            due("same, bit " + bit, x.same(1, 0), APART);
        }
        x.begin(1, 4, 2, 3, 5L);
        due("merge", x.merge(0, 1), 0);
        due("same", x.same(1, 0), 1);
    }

    // ---- arcs, times, age

    @Says("An ARC joins two different NODES.")
    void noArcJoinsANodeToItself() {
        for (int nodes : new int[] {2, 64}) {
            x.begin(0, nodes, 2, 3, 5L);
            for (int node : new int[] {0, 1, nodes - 1}) {
                due("add " + node, x.add(0, node, node), BAD);
                due("take " + node, x.take(0, node, node), BAD);
                due("no sum", x.sum(0, node, 0, 0), 0);
                due("no mate", x.mate(0, node), NONE);
            }
            tells(0, 0, 0, 0, 0, 0, 0);
        }
    }

    @Says("ARCS that come to a STREAM are numbered 1, 2, .. (their TIMES)")
    void theFirstTimeIs1() {
        for (int s = 0; s < 3; s++) {
            due("first of " + s, x.add(s, 0, 1), 1);
            due("second of " + s, x.add(s, 1, 0), 2);
        }
        due("begin", x.begin(1, 2, 1, 1, 0L), 2);
        due("first again", x.add(1, 0, 1), 1);
        due("goes on in another", x.add(0, 0, 1), 3);
    }

    @Says("several may join the same NODES")
    void theSameArcMayComeAgain() {
        x.begin(0, 4, 2, 3, 5L);
        for (int time = 1; time <= 9; time++) {
            due("add", x.add(0, time % 2 == 0 ? 3 : 1, time % 2 == 0 ? 1 : 3), time);
        }
        tells(0, 9, 2, 0, 1, 1, 1);
        due("counted nine times", x.span(0, 1, 0), 9);
        due("in the rows nine times", x.sum(0, 3, 0, 0), -9);
    }

    @Says("Its AGE is how many came.")
    void onlyArcsThatComeMakeItOlder() {
        x.begin(0, 4, 2, 3, 5L);
        x.begin(1, 4, 2, 3, 5L);
        adds(0, 0, 1);
        adds(1, 2, 3, 1, 2);
        x.take(0, 0, 1);
        due("taken away", x.told(0, 0), 1);
        x.add(0, 0, 4);
        x.add(0, 1, 1);
        due("refused", x.told(0, 0), 1);
        x.merge(0, 1);
        due("put together", x.told(0, 0), 1);
        due("next", x.add(0, 0, 1), 2);
    }

    // ---- a new object, begin, told

    @Says("STREAMS with 2 NODES, 1 SLOT, STRETCH 1, SEED 0, to which no ARC came.")
    void aNewObjectsStreamsAreAsBegunSo() {
        for (int s = 0; s < 3; s++) {
            tells(s, 0, 0, 0, 0, 0, 0, 2, 1, 1);
        }
        x.begin(1, 2, 1, 1, 0L);
        due("not apart", x.same(0, 1), 1);
        due("not apart", x.merge(2, 1), 0);
        due("no node 2", x.add(0, 0, 2), BAD);
        due("seed 0 gives this level", x.take(0, 0, 1), 2);
    }

    @Says("A STREAM begins anew so: how many ARCS had come.")
    void beginTellsHowManyCameAndNotHowManyLeftOrWereMerged() {
        x.begin(0, 4, 2, 3, 5L);
        x.begin(1, 4, 2, 3, 5L);
        adds(0, 0, 1, 0, 1, 2, 3);
        adds(1, 1, 2);
        takes(0, 0, 1, 0, 1);
        x.merge(0, 1);
        due("three came", x.begin(0, 4, 2, 3, 5L), 3);
        due("none came", x.begin(0, 4, 2, 3, 5L), 0);
    }

    @Says("A STREAM begins anew so: how many ARCS had come.")
    void nothingIsLeftOfWhatWasBefore() {
        x.begin(0, 64, 2, 3, 5L);
        ring(0, 64);
        x.begin(0, 64, 2, 3, 5L);
        tells(0, 0, 0, 0, 0, 0, 0, 64, 2, 3);
        for (int node : new int[] {0, 1, 31, 62, 63}) {
            due("from", x.span(0, node, 0), 0);
            due("to", x.span(0, node, 1), 0);
            due("mate", x.mate(0, node), NONE);
            due("part", x.part(0, MOST, node), node);
            due("far", x.far(0, node, (node + 1) % 64), NONE);
            due("since", x.since(0, node, (node + 1) % 64), NONE);
            for (int level = 0; level < 10; level++) {
                due("sum", x.sum(0, node, level, level % 3), 0);
            }
            due("out", x.out(0, 1L << node), NOTHING);
        }
        due("slot", x.slot(0, 0, 0), BAD);
        due("tree", x.tree(0, 0, 0), BAD);
        due("kept", x.kept(0, 0, 2), BAD);
        x.begin(1, 64, 2, 3, 5L);
        due("rows as of a new one", x.same(0, 1), 1);
    }

    @Says("A STREAM begins anew so: how many ARCS had come.")
    void beginWithMoreNodesHasThemAllAlone() {
        adds(0, 0, 1);
        x.begin(0, 64, 16, 7, 9L);
        due("parts", x.parts(0, 1), 64);
        due("first", x.add(0, 62, 63), 1);
        due("mate", x.mate(0, 63), 62);
        due("parts", x.parts(0, 1), 63);
    }

    @Says("0 its AGE, 1 SLOTS that are taken, 2 LOST, 3 ARCS of THE FOREST, 4 of THE THINNED graph, "
        + "5 pairs of MATES, 6 N, 7 SLOTS, 8 STRETCH. BAD.")
    void toldTakes0To8() {
        x.begin(1, 9, 4, 3, 5L);
        // Slots: 0 and 1; 1 again and 2; 2 and 0 again; 3, then 4 lessens all: 0, 1, 2 have 1;
        // 4 takes the fourth, then 5 lessens all: none is left.
        adds(1, 0, 1, 1, 2, 2, 0, 3, 4, 4, 5);
        tells(1, 5, 0, 2, 4, 4, 2, 9, 4, 3);
        due("-1", x.told(1, -1), BAD);
        due("9", x.told(1, 9), BAD);
        due("least", x.told(1, LEAST), BAD);
        due("most", x.told(1, MOST), BAD);
    }
}
