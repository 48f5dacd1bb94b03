/** The forest: which arc goes, and the parts by no arcs, by all and by more than came. */
public final class ForestEdgeTest extends Scene {
    public static void main(String[] args) throws Exception {
        play(ForestEdgeTest.class);
    }

    /** The times of the forest's arcs, and no arc more. */
    private void times(int stream, int... want) {
        due("arcs of the forest", x.told(stream, 3), want.length);
        for (int i = 0; i < want.length; i++) {
            due("time of arc " + i, x.tree(stream, i, 0), want[i]);
        }
        due("no arc more", x.tree(stream, want.length, 0), BAD);
    }

    // ---- which arcs it has

    @Says("one that comes is in it")
    void theLatestArcIsAlwaysInIt() {
        x.begin(0, 4, 2, 3, 5L);
        int[] arcs = {0, 1, 1, 2, 2, 0, 0, 1, 1, 0, 3, 2, 3, 0, 3, 1};
        for (int i = 0; i < arcs.length; i += 2) {
            int time = x.add(0, arcs[i], arcs[i + 1]);
            int last = x.told(0, 3) - 1;
            due("the latest time", x.tree(0, last, 0), time);
            due("its lesser node", x.tree(0, last, 1), Math.min(arcs[i], arcs[i + 1]));
            due("its greater node", x.tree(0, last, 2), Math.max(arcs[i], arcs[i + 1]));
        }
    }

    @Says("if there was a way in it between its NODES, the ARC on that way with the least TIME goes")
    void withoutAWayNoArcGoes() {
        x.begin(0, 6, 2, 3, 5L);
        adds(0, 0, 1, 2, 3, 4, 5, 1, 2, 3, 4);
        times(0, 1, 2, 3, 4, 5);
    }

    @Says("if there was a way in it between its NODES, the ARC on that way with the least TIME goes")
    void theSameArcBeforeGoes() {
        x.begin(0, 4, 2, 3, 5L);
        adds(0, 2, 3, 0, 1, 1, 0);
        times(0, 1, 3);
        adds(0, 3, 2);
        times(0, 3, 4);
    }

    @Says("the ARC on that way with the least TIME goes")
    void anOlderArcThatIsNotOnTheWayStays() {
        x.begin(0, 6, 2, 3, 5L);
        adds(0, 0, 5, 1, 2, 0, 1, 2, 3, 3, 4, 4, 1);
        // The way from 4 to 1 is by 3 and 2; the oldest arc on it is the second, of 1 and 2.
        times(0, 1, 3, 4, 5, 6);
    }

    @Says("the ARC on that way with the least TIME goes")
    void theLeastTimeMayBeAnywhereOnTheWay() {
        int[][] ways = {{0, 1, 1, 2, 2, 3}, {1, 2, 0, 1, 2, 3}, {2, 3, 1, 2, 0, 1}, {1, 2, 2, 3, 0, 1}};
        for (int[] way : ways) {
            x.begin(0, 5, 2, 3, 5L);
            adds(0, way);
            adds(0, 3, 0);
            times(0, 2, 3, 4);
        }
    }

    @Says("if there was a way in it")
    void aWayByArcsThatWentIsNoWay() {
        x.begin(0, 5, 2, 3, 5L);
        adds(0, 0, 1, 1, 2, 2, 0, 3, 4, 0, 1);
        // 0 and 1 were joined by 2, and the arc of 1 and 2 went, not that of time 1 which went before.
        times(0, 3, 4, 5);
        due("1 and 2 by", x.since(0, 1, 2), 3);
    }

    @Says("THE FOREST, of ARCS with their TIMES")
    void itHasAtMostOneArcLessThanNodes() {
        x.begin(0, 64, 2, 3, 5L);
        ring(0, 64);
        due("63 arcs", x.told(0, 3), 63);
        for (int node = 0; node < 62; node++) {
            x.add(0, node, node + 2);
        }
        due("63 arcs", x.told(0, 3), 63);
        due("one part", x.parts(0, MOST), 1);
        due("the latest", x.tree(0, 62, 0), 126);
        due("none after it", x.tree(0, 63, 0), BAD);
    }

    @Says("THE FOREST, of ARCS with their TIMES")
    void with2NodesItHasTheLatestArc() {
        for (int time = 1; time <= 20; time++) {
            x.add(0, 0, 1);
            times(0, time);
        }
    }

    // ---- parts

    @Says("(without ARCS each NODE is one)")
    void byTheLast0ArcsEachNodeIsAPart() {
        x.begin(0, 64, 2, 3, 5L);
        ring(0, 64);
        due("parts", x.parts(0, 0), 64);
        for (int node : new int[] {0, 1, 32, 62, 63}) {
            due("part of " + node, x.part(0, 0, node), node);
        }
    }

    @Says("(without ARCS each NODE is one)")
    void inAnEmptyStreamEachNodeIsAPart() {
        x.begin(0, 64, 2, 3, 5L);
        for (int n : new int[] {0, 1, 2, 512, MOST}) {
            due("parts by " + n, x.parts(0, n), 64);
            due("part of 0 by " + n, x.part(0, n, 0), 0);
            due("part of 63 by " + n, x.part(0, n, 63), 63);
        }
        due("parts of a new one", x.parts(1, 0), 2);
        due("part in a new one", x.part(1, 0, 1), 1);
    }

    @Says("n 0 or more; all, if fewer came")
    void byAllArcsByOneLessAndByMoreThanCame() {
        x.begin(0, 6, 2, 3, 5L);
        adds(0, 4, 5, 1, 2, 2, 3, 3, 1);
        int[] parts = {6, 5, 4, 4, 3, 3, 3};
        int[] leastOf3 = {3, 1, 1, 1, 1, 1, 1};
        int[] leastOf5 = {5, 5, 5, 5, 4, 4, 4};
        for (int n = 0; n < parts.length; n++) {
            due("parts by " + n, x.parts(0, n), parts[n]);
            due("part of 3 by " + n, x.part(0, n, 3), leastOf3[n]);
            due("part of 5 by " + n, x.part(0, n, 5), leastOf5[n]);
        }
        for (int n : new int[] {512, 1 << 20, MOST - 1, MOST}) {
            due("parts by " + n, x.parts(0, n), 3);
            due("part of 5 by " + n, x.part(0, n, 5), 4);
        }
    }

    @Says("PARTS of the last n ARCS")
    void arcsThatWentFromTheForestAreCountedAmongTheLast() {
        x.begin(0, 4, 2, 3, 5L);
        adds(0, 0, 1, 2, 3, 2, 3, 2, 3);
        times(0, 1, 4);
        due("by 3", x.parts(0, 3), 3);
        due("by 4", x.parts(0, 4), 2);
        due("part by 3", x.part(0, 3, 1), 1);
        due("part by 4", x.part(0, 4, 1), 0);
    }

    @Says("two are in one PART just if those ARCS have a way between them")
    void oneArcMoreMayJoinTwoParts() {
        x.begin(0, 64, 2, 3, 5L);
        for (int node = 62; node >= 0; node--) {
            x.add(0, node, node + 1);
        }
        for (int n = 0; n <= 63; n++) {
            due("parts by " + n, x.parts(0, n), 64 - n);
            due("part of " + n, x.part(0, n, n), 0);
            due("part of 63", x.part(0, n, 63), n == 63 ? 0 : 63);
        }
    }

    @Says("The least NODE of a NODE's PART by the last n ARCS.")
    void theLeastNodeOfAPartIsNotAlwaysTheFirstThatCame() {
        x.begin(0, 64, 2, 3, 5L);
        adds(0, 63, 40, 40, 50, 20, 21, 50, 21, 62, 63);
        for (int node : new int[] {20, 21, 40, 50, 62, 63}) {
            due("part of " + node, x.part(0, 5, node), 20);
        }
        due("by 4, of 62", x.part(0, 4, 62), 62);
        due("by 4, of 63", x.part(0, 4, 63), 62);
        due("by 4, of 40", x.part(0, 4, 40), 20);
        due("by 3, of 40", x.part(0, 3, 40), 40);
        due("by 2, of 50", x.part(0, 2, 50), 21);
        due("by 2, of 20", x.part(0, 2, 20), 20);
        adds(0, 0, 63);
        due("0 is less", x.part(0, 6, 50), 0);
        due("of 0 itself", x.part(0, 6, 0), 0);
    }

    @Says("How many PARTS the last n ARCS make (n 0 or more; all, if fewer came). BAD.")
    void partsOfLessThan0ArcsAreBad() {
        adds(0, 0, 1);
        for (int n : new int[] {-1, -2, -512, LEAST, LEAST + 1}) {
            due("parts by " + n, x.parts(0, n), BAD);
        }
    }

    @Says("BAD as parts(), or no such NODE.")
    void partOfLessThan0ArcsOrNoNodeIsBad() {
        adds(0, 0, 1);
        for (int n : new int[] {-1, -2, -512, LEAST, LEAST + 1}) {
            due("part by " + n, x.part(0, n, 0), BAD);
        }
        for (int node : new int[] {-1, 2, 63, 64, LEAST, MOST}) {
            due("part of " + node, x.part(0, 0, node), BAD);
        }
    }

    // ---- tree

    @Says("Of ARC i of THE FOREST, by their TIMES: 0 the TIME, 1 the lesser NODE, 2 the greater. BAD.")
    void treeTakesEachArcAndNoMore() {
        x.begin(0, 64, 2, 3, 5L);
        due("none yet", x.tree(0, 0, 0), BAD);
        adds(0, 63, 0, 5, 4, 62, 63);
        int[][] arcs = {{1, 0, 63}, {2, 4, 5}, {3, 62, 63}};
        for (int i = 0; i < 3; i++) {
            for (int what = 0; what < 3; what++) {
                due("tree " + i + " " + what, x.tree(0, i, what), arcs[i][what]);
            }
        }
        for (int i : new int[] {-1, 3, 4, 62, 63, 64, 512, LEAST, MOST}) {
            for (int what = 0; what < 3; what++) {
                due("tree " + i + " " + what, x.tree(0, i, what), BAD);
            }
        }
    }

    @Says("Of ARC i of THE FOREST, by their TIMES: 0 the TIME, 1 the lesser NODE, 2 the greater. BAD.")
    void treeTakesWhats0To2() {
        adds(0, 0, 1);
        for (int what : new int[] {-1, 3, 4, LEAST, MOST}) {
            due("what " + what, x.tree(0, 0, what), BAD);
        }
    }

    // ---- since

    @Says("(0, if they are one NODE)")
    void aNodeIsInOnePartWithItselfByNoArcs() {
        x.begin(0, 64, 2, 3, 5L);
        due("without arcs", x.since(0, 0, 0), 0);
        due("without arcs", x.since(0, 63, 63), 0);
        ring(0, 64);
        due("with arcs", x.since(0, 0, 0), 0);
        due("with arcs", x.since(0, 63, 63), 0);
    }

    @Says("By the last how many ARCS, at least, two NODES are in one PART")
    void byTheLastArcByAllAndBetween() {
        x.begin(0, 6, 2, 3, 5L);
        adds(0, 0, 1, 2, 3, 1, 2, 3, 4);
        due("by the last", x.since(0, 3, 4), 1);
        due("by the last, the other way round", x.since(0, 4, 3), 1);
        due("by the last two", x.since(0, 1, 2), 2);
        due("by the last three", x.since(0, 4, 1), 3);
        due("by all", x.since(0, 0, 4), 4);
        adds(0, 1, 0);
        due("by the last again", x.since(0, 0, 1), 1);
        due("one more than before", x.since(0, 4, 0), 4);
    }

    @Says("BAD; NONE: not by all.")
    void sinceIsNoneIfNotByAll() {
        x.begin(0, 6, 2, 3, 5L);
        due("without arcs", x.since(0, 0, 1), NONE);
        adds(0, 0, 1, 2, 3);
        due("of two parts", x.since(0, 1, 2), NONE);
        due("of a lone one", x.since(0, 5, 0), NONE);
        adds(0, 1, 2);
        due("joined", x.since(0, 0, 3), 3);
    }

    @Says("BAD; NONE: not by all.")
    void sinceOfNoSuchNodeIsBadAlsoOfTheSame() {
        x.begin(0, 6, 2, 3, 5L);
        for (int node : new int[] {-1, 6, 63, 64, LEAST, MOST}) {
            due("a " + node, x.since(0, node, 0), BAD);
            due("b " + node, x.since(0, 0, node), BAD);
            due("both " + node, x.since(0, node, node), BAD);
        }
    }
}
