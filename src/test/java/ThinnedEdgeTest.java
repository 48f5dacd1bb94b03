/** The thinned graph at the edge of its stretch, and the matching. */
public final class ThinnedEdgeTest extends Scene {
    private static final int[] STRETCHES = {1, 3, 5, 7};

    public static void main(String[] args) throws Exception {
        play(ThinnedEdgeTest.class);
    }

    // ---- which arcs it has

    @Says("unless there is a way of at most STRETCH ARCS between its NODES in it")
    void aWayOfJustStretchArcsIsEnough() {
        for (int stretch : STRETCHES) {
            x.begin(0, 10, 2, stretch, 5L);
            way(0, stretch);
            due("the way", x.far(0, 0, stretch), stretch);
            x.add(0, stretch, 0);
            due("stretch " + stretch + ": not kept", x.told(0, 4), stretch);
            due("still the way", x.far(0, 0, stretch), stretch);
        }
    }

    @Says("unless there is a way of at most STRETCH ARCS between its NODES in it")
    void aWayOfOneMoreIsTooLong() {
        for (int stretch : STRETCHES) {
            x.begin(0, 10, 2, stretch, 5L);
            way(0, stretch + 1);
            x.add(0, 0, stretch + 1);
            due("stretch " + stretch + ": kept", x.told(0, 4), stretch + 2);
            due("one arc", x.far(0, 0, stretch + 1), 1);
        }
    }

    @Says("unless there is a way of at most STRETCH ARCS between its NODES in it")
    void aWayOfOneLessIsEnough() {
        for (int stretch : new int[] {3, 5, 7}) {
            x.begin(0, 10, 2, stretch, 5L);
            way(0, stretch - 1);
            x.add(0, 0, stretch - 1);
            due("stretch " + stretch + ": not kept", x.told(0, 4), stretch - 1);
        }
    }

    @Says("unless there is a way of at most STRETCH ARCS between its NODES in it")
    void theSameArcIsNeverKeptTwice() {
        for (int stretch : STRETCHES) {
            x.begin(0, 10, 2, stretch, 5L);
            adds(0, 3, 4, 3, 4, 4, 3);
            due("stretch " + stretch, x.told(0, 4), 1);
            due("the first", x.kept(0, 0, 2), 1);
        }
    }

    @Says("THE THINNED graph has an ARC that comes")
    void withoutAWayAnArcIsKept() {
        for (int stretch : STRETCHES) {
            x.begin(0, 64, 2, stretch, 5L);
            for (int node = 0; node < 64; node += 2) {
                x.add(0, node + 1, node);
            }
            due("stretch " + stretch, x.told(0, 4), 32);
        }
    }

    @Says("between its NODES in it")
    void aWayByArcsThatWereNotKeptIsNoWay() {
        x.begin(0, 12, 2, 3, 5L);
        // 0 and 3 are three arcs from one another; their arc is not kept, and makes no shorter way.
        adds(0, 0, 1, 1, 2, 2, 3, 0, 3, 3, 4);
        due("0 to 4", x.far(0, 0, 4), 4);
        adds(0, 0, 4);
        due("kept", x.far(0, 0, 4), 1);
        due("of six arcs", x.told(0, 4), 5);
    }

    @Says("unless there is a way of at most STRETCH ARCS")
    void theShortestOfSeveralWaysCounts() {
        x.begin(0, 12, 2, 5, 5L);
        ring(0, 8);
        due("the ring is closed", x.told(0, 4), 8);
        adds(0, 0, 5);
        due("3 one way, 5 the other: not kept", x.told(0, 4), 8);
        due("the short way", x.far(0, 0, 5), 3);
        due("just over from one another", x.far(0, 0, 4), 4);
    }

    @Says("unless there is a way of at most STRETCH ARCS")
    void theWayMayLeadByAnyNode() {
        x.begin(0, 64, 2, 3, 5L);
        // From 30 ways of two arcs lead by a lesser, a middle and a greater node.
        adds(0, 30, 5, 30, 31, 30, 60, 5, 1, 31, 2, 60, 3);
        for (int node = 1; node <= 3; node++) {
            due("30 to " + node, x.far(0, 30, node), 2);
            due(node + " to 30", x.far(0, node, 30), 2);
            x.add(0, 30, node);
            due("not kept", x.told(0, 4), 6);
        }
        due("1 to 2", x.far(0, 1, 2), 4);
        due("3 to 1", x.far(0, 3, 1), 4);
        adds(0, 1, 2);
        due("kept", x.told(0, 4), 7);
        due("1 to 2", x.far(0, 1, 2), 1);
    }

    // ---- far

    @Says("(0 to itself)")
    void aNodeIs0FarFromItself() {
        x.begin(0, 64, 2, 3, 5L);
        for (int node : new int[] {0, 1, 63}) {
            due("alone", x.far(0, node, node), 0);
        }
        ring(0, 64);
        for (int node : new int[] {0, 1, 63}) {
            due("in a ring", x.far(0, node, node), 0);
        }
    }

    @Says("BAD; NONE: there is none.")
    void farIsNoneWithoutAWay() {
        x.begin(0, 64, 2, 3, 5L);
        due("without arcs", x.far(0, 0, 63), NONE);
        adds(0, 0, 1, 62, 63);
        due("of two parts", x.far(0, 1, 62), NONE);
        due("of a lone one", x.far(0, 30, 0), NONE);
        due("to a lone one", x.far(0, 0, 30), NONE);
        adds(0, 1, 62);
        due("joined", x.far(0, 0, 63), 3);
    }

    @Says("Of how many ARCS the shortest way between two NODES in THE THINNED graph is")
    void theLongestWayHas63Arcs() {
        x.begin(0, 64, 2, 1, 5L);
        way(0, 62);
        due("62", x.far(0, 0, 62), 62);
        due("none", x.far(0, 0, 63), NONE);
        adds(0, 63, 62);
        due("63", x.far(0, 0, 63), 63);
        due("63, the other way round", x.far(0, 63, 0), 63);
        adds(0, 0, 63);
        due("1", x.far(0, 0, 63), 1);
        due("half the ring", x.far(0, 10, 42), 32);
    }

    @Says("BAD; NONE: there is none.")
    void farOfNoSuchNodeIsBadAlsoOfTheSame() {
        x.begin(0, 6, 2, 3, 5L);
        for (int node : new int[] {-1, 6, 63, 64, LEAST, MOST}) {
            due("a " + node, x.far(0, node, 0), BAD);
            due("b " + node, x.far(0, 0, node), BAD);
            due("both " + node, x.far(0, node, node), BAD);
        }
    }

    // ---- kept

    @Says("The lesser (what = 0), greater (1) NODE of ARC i of THE THINNED graph, as they came; its TIME (2). BAD.")
    void keptTakesEachArcAndNoMore() {
        x.begin(0, 64, 2, 3, 5L);
        due("none yet", x.kept(0, 0, 0), BAD);
        adds(0, 63, 62, 62, 63, 5, 4, 63, 0, 0, 62, 2, 3);
        int[][] arcs = {{62, 63, 1}, {4, 5, 3}, {0, 63, 4}, {2, 3, 6}};
        for (int i = 0; i < 4; i++) {
            for (int what = 0; what < 3; what++) {
                due("kept " + i + " " + what, x.kept(0, i, what), arcs[i][what]);
            }
        }
        for (int i : new int[] {-1, 4, 5, 511, 512, LEAST, MOST}) {
            for (int what = 0; what < 3; what++) {
                due("kept " + i + " " + what, x.kept(0, i, what), BAD);
            }
        }
    }

    @Says("The lesser (what = 0), greater (1) NODE of ARC i of THE THINNED graph, as they came; its TIME (2). BAD.")
    void keptTakesWhats0To2() {
        adds(0, 0, 1);
        for (int what : new int[] {-1, 3, 4, LEAST, MOST}) {
            due("what " + what, x.kept(0, 0, what), BAD);
        }
    }

    // ---- the matching

    @Says("an ARC that comes joins its NODES as MATES, if both have none")
    void ifBothHaveNoneTheyAreMates() {
        x.begin(0, 64, 2, 3, 5L);
        adds(0, 63, 0);
        due("mate of 63 is 0", x.mate(0, 63), 0);
        due("mate of 0", x.mate(0, 0), 63);
        due("one pair", x.told(0, 5), 1);
    }

    @Says("if both have none")
    void ifOneHasAMateNothingIsJoined() {
        x.begin(0, 6, 2, 3, 5L);
        adds(0, 0, 1, 1, 2, 3, 0);
        due("mate of 0", x.mate(0, 0), 1);
        due("mate of 1", x.mate(0, 1), 0);
        due("mate of 2", x.mate(0, 2), NONE);
        due("mate of 3", x.mate(0, 3), NONE);
        due("one pair", x.told(0, 5), 1);
        adds(0, 3, 2);
        due("mate of 2", x.mate(0, 2), 3);
        due("mate of 3", x.mate(0, 3), 2);
        due("two pairs", x.told(0, 5), 2);
    }

    @Says("if both have none")
    void ifBothHaveMatesTheyKeepThem() {
        x.begin(0, 6, 2, 3, 5L);
        adds(0, 0, 1, 2, 3, 1, 2, 0, 3, 0, 1, 1, 0);
        int[] mates = {1, 0, 3, 2, NONE, NONE};
        for (int node = 0; node < 6; node++) {
            due("mate of " + node, x.mate(0, node), mates[node]);
        }
        due("two pairs", x.told(0, 5), 2);
    }

    @Says("an ARC that comes joins its NODES as MATES")
    void anArcThatIsNotThinnedInJoinsMatesToo() {
        x.begin(0, 5, 2, 3, 5L);
        adds(0, 1, 0, 1, 2, 1, 3, 2, 3);
        due("2 and 3 have a way of two arcs", x.told(0, 4), 3);
        due("mate of 2", x.mate(0, 2), 3);
        due("mate of 3", x.mate(0, 3), 2);
    }

    @Says("5 pairs of MATES")
    void thereAreAtMost32Pairs() {
        x.begin(0, 64, 2, 3, 5L);
        for (int node = 0; node < 32; node++) {
            x.add(0, 63 - node, node);
            due("pairs", x.told(0, 5), node + 1);
        }
        ring(0, 64);
        due("no pair more", x.told(0, 5), 32);
        for (int node = 0; node < 64; node++) {
            due("mate of " + node, x.mate(0, node), 63 - node);
        }
    }

    @Says("The MATE of a NODE. BAD; NONE.")
    void mateIsNoneOrBad() {
        x.begin(0, 6, 2, 3, 5L);
        for (int node = 0; node < 6; node++) {
            due("mate of " + node, x.mate(0, node), NONE);
        }
        for (int node : new int[] {-1, 6, 63, 64, LEAST, MOST}) {
            due("no node " + node, x.mate(0, node), BAD);
        }
    }
}
