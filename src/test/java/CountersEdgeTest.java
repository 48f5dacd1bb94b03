/** Counters: slots that are had, taken and freed, spans, and counters put together. */
public final class CountersEdgeTest extends Scene {
    public static void main(String[] args) throws Exception {
        play(CountersEdgeTest.class);
    }

    // ---- counting

    @Says("both NODES, first a, then b, are COUNTED")
    void aIsCountedBeforeB() {
        x.begin(0, 4, 1, 3, 5L);
        adds(0, 2, 3);
        slots(0);
        due("3 lessened 2", x.told(0, 2), 1);
        adds(0, 3, 2, 2, 3, 3, 0);
        slots(0);
        due("each arc lost one", x.told(0, 2), 4);
        x.begin(0, 4, 2, 3, 5L);
        adds(0, 0, 1, 2, 0);
        slots(0, 0, 1);
        x.begin(0, 4, 2, 3, 5L);
        adds(0, 0, 1, 0, 2);
        slots(0, 0, 1);
        due("2 lessened 0 from 2 to 1", x.told(0, 2), 1);
        x.begin(0, 4, 2, 3, 5L);
        adds(0, 0, 1, 3, 2);
        slots(0, 2, 1);
        x.begin(0, 4, 2, 3, 5L);
        adds(0, 0, 1, 2, 3);
        slots(0, 3, 1);
    }

    @Says("if a SLOT has the NODE, its count is one more")
    void aNodeWithASlotCountsOneMoreThoughSlotsAreFree() {
        x.begin(0, 4, 16, 3, 5L);
        adds(0, 2, 3, 3, 2, 2, 0);
        slots(0, 2, 3, 3, 2, 0, 1);
    }

    @Says("if a SLOT has the NODE, its count is one more")
    void aNodeWithASlotCountsOneMoreThoughAllAreTaken() {
        x.begin(0, 4, 2, 3, 5L);
        adds(0, 0, 3, 3, 0, 3, 0);
        slots(0, 0, 3, 3, 3);
        due("nothing is lost", x.told(0, 2), 0);
    }

    @Says("else, if less than SLOTS are taken, the NODE takes one, with 1")
    void theLastFreeSlotIsTaken() {
        x.begin(0, 64, 16, 3, 5L);
        for (int node = 0; node < 16; node += 2) {
            due("taken", x.told(0, 1), node);
            x.add(0, 63 - node, 62 - node);
        }
        due("all are taken", x.told(0, 1), 16);
        due("nothing is lost", x.told(0, 2), 0);
        due("the 16th, the greatest node", x.slot(0, 15, 0), 63);
        due("with 1", x.slot(0, 15, 1), 1);
        due("no 17th", x.slot(0, 16, 0), BAD);
    }

    @Says("else, if less than SLOTS are taken, the NODE takes one, with 1")
    void moreSlotsThanNodesAreNeverAllTaken() {
        x.begin(0, 2, 16, 3, 5L);
        for (int i = 0; i < 100; i++) {
            x.add(0, 0, 1);
        }
        slots(0, 0, 100, 1, 100);
        due("nothing is lost", x.told(0, 2), 0);
    }

    @Says("else all counts are one less, SLOTS with 0 are free then, LOST is one more")
    void allCountsAreOneLessAndTheNodeTakesNone() {
        x.begin(0, 6, 3, 3, 5L);
        adds(0, 0, 1, 0, 1, 0, 2);
        slots(0, 0, 3, 1, 2, 2, 1);
        adds(0, 3, 0);
        slots(0, 0, 3, 1, 1);
        due("3 took no slot", x.span(0, 3, 0), 0);
        due("2 has none any more", x.span(0, 2, 0), 0);
        due("one is lost", x.told(0, 2), 1);
    }

    @Says("SLOTS with 0 are free then")
    void aFreedSlotIsTakenByTheNextNode() {
        x.begin(0, 6, 2, 3, 5L);
        adds(0, 0, 1, 0, 2);
        slots(0, 0, 1);
        adds(0, 3, 0);
        slots(0, 0, 2, 3, 1);
        due("3 lost nothing", x.told(0, 2), 1);
    }

    @Says("SLOTS with 0 are free then")
    void aNodeWhoseSlotWasFreedBeginsWith1() {
        x.begin(0, 6, 2, 3, 5L);
        adds(0, 0, 1, 0, 2);
        due("1 is free", x.span(0, 1, 0), 0);
        adds(0, 1, 0);
        slots(0, 0, 2, 1, 1);
    }

    @Says("SLOTS with 0 are free then")
    void allSlotsMayBeFreedAtOnce() {
        x.begin(0, 64, 16, 3, 5L);
        for (int node = 0; node < 16; node += 2) {
            x.add(0, node, node + 1);
        }
        x.add(0, 16, 17);
        slots(0, 17, 1);
        due("one is lost", x.told(0, 2), 1);
    }

    @Says("LOST is one more")
    void anArcMayLoseTwoAndASlotOfManyLosesOne() {
        x.begin(0, 6, 2, 3, 5L);
        adds(0, 0, 1, 0, 1, 0, 1);
        due("none", x.told(0, 2), 0);
        adds(0, 2, 3);
        due("both nodes", x.told(0, 2), 2);
        slots(0, 0, 1, 1, 1);
    }

    // ---- the span

    @Says("from its count (0 without a SLOT) to that and LOST")
    void theSpanOfANodeWithASlotAndWithout() {
        x.begin(0, 6, 2, 3, 5L);
        adds(0, 0, 1, 0, 1, 0, 1, 2, 3);
        due("0 from", x.span(0, 0, 0), 1);
        due("0 to", x.span(0, 0, 1), 3);
        due("2 from", x.span(0, 2, 0), 0);
        due("2 to", x.span(0, 2, 1), 2);
        due("5, which never came, from", x.span(0, 5, 0), 0);
        due("5, which never came, to", x.span(0, 5, 1), 2);
    }

    @Says("from its count (0 without a SLOT) to that and LOST")
    void theSpanOfAnEmptyStreamIs0To0() {
        for (int node = 0; node < 2; node++) {
            due("from", x.span(1, node, 0), 0);
            due("to", x.span(1, node, 1), 0);
        }
    }

    @Says("(How many ARCS that came have the NODE, those of the streams put together here with them, lies in it.)")
    void theSpanHoldsAlsoWhenPutTogether() {
        int[] degrees = new int[8];
        x.begin(0, 8, 3, 3, 5L);
        x.begin(1, 8, 3, 3, 5L);
        for (int i = 0; i < 120; i++) {
            int a = i * i % 7, b = a + 1 + i % (7 - a);
            x.add(i % 2, a, b);
            degrees[a]++;
            degrees[b]++;
        }
        x.merge(0, 1);
        for (int node = 0; node < 8; node++) {
            due("from, " + node, x.span(0, node, 0) <= degrees[node] ? 1 : 0, 1);
            due("to, " + node, x.span(0, node, 1) >= degrees[node] ? 1 : 0, 1);
        }
    }

    @Says("THE SPAN of a NODE: from (end = 0), to (1). BAD.")
    void spanTakesEnds0And1() {
        x.begin(0, 3, 1, 3, 5L);
        adds(0, 0, 1, 0, 2, 0, 1);
        due("from", x.span(0, 0, 0), 0);
        due("to", x.span(0, 0, 1), 3);
        for (int end : new int[] {-1, 2, LEAST, MOST}) {
            due("end " + end, x.span(0, 0, end), BAD);
        }
    }

    // ---- the slots in their order

    @Says("the greatest count first, of alike ones the lesser NODE")
    void slotsStandByCountsThenByNodes() {
        x.begin(0, 64, 16, 3, 5L);
        adds(0, 63, 40, 7, 40, 7, 63, 20, 21, 2, 20, 63, 1);
        slots(0, 63, 3, 7, 2, 20, 2, 40, 2, 1, 1, 2, 1, 21, 1);
    }

    @Says("BAD: also, there are not so many.")
    void thereAreNoMoreSlotsThanAreTaken() {
        x.begin(0, 64, 16, 3, 5L);
        due("none is taken", x.slot(0, 0, 0), BAD);
        due("none is taken", x.slot(0, 0, 1), BAD);
        adds(0, 5, 3);
        due("the first", x.slot(0, 0, 0), 3);
        due("the last", x.slot(0, 1, 0), 5);
        for (int i : new int[] {2, 3, 15, 16, 17, 64, -1, -2, LEAST, MOST}) {
            due("node of " + i, x.slot(0, i, 0), BAD);
            due("count of " + i, x.slot(0, i, 1), BAD);
        }
    }

    @Says("The NODE (what = 0), its count (1), of the i-th of the SLOTS that are taken")
    void slotTakesWhats0And1() {
        x.begin(0, 8, 3, 3, 5L);
        adds(0, 5, 3, 5, 4);
        due("node", x.slot(0, 0, 0), 5);
        due("count", x.slot(0, 0, 1), 2);
        for (int what : new int[] {-1, 2, 3, LEAST, MOST}) {
            due("what " + what, x.slot(0, 0, what), BAD);
        }
    }

    // ---- put together

    private void begin(int nodes, int slots) {
        for (int s = 0; s < 3; s++) {
            x.begin(s, nodes, slots, 3, 5L);
        }
    }

    @Says("each NODE's counts are added")
    void nodesOfBothAndOfEitherAreAdded() {
        begin(8, 4);
        adds(0, 0, 1, 0, 1);
        adds(1, 1, 2, 1, 3);
        due("taken", x.merge(0, 1), 4);
        slots(0, 1, 4, 0, 2, 2, 1, 3, 1);
        slots(1, 1, 2, 2, 1, 3, 1);
    }

    @Says("else 0: all are c less")
    void justSlotsNodesLoseNothing() {
        begin(8, 4);
        adds(0, 0, 1);
        adds(1, 2, 3, 2, 3);
        due("taken", x.merge(0, 1), 4);
        slots(0, 2, 2, 3, 2, 0, 1, 1, 1);
        due("lost", x.told(0, 2), 0);
    }

    @Says("are these more than SLOTS NODES, then c is the count at place SLOTS + 1, as they stand from the greatest down")
    void oneNodeMoreThanSlotsTakesItsCountOffAll() {
        begin(8, 4);
        adds(0, 0, 1, 0, 1, 0, 1, 2, 3, 2, 3);
        adds(1, 4, 0, 4, 1, 4, 1, 0, 1);
        // 0: 3 + 2, 1: 3 + 3, 2: 2, 3: 2, 4: 3; the fifth has 2.
        due("taken", x.merge(0, 1), 3);
        slots(0, 1, 4, 0, 3, 4, 1);
        due("c is lost", x.told(0, 2), 2);
    }

    @Says("c is the count at place SLOTS + 1")
    void cIsNotTheLeastIfThereAreManyMore() {
        begin(8, 2);
        adds(0, 0, 1, 0, 1, 0, 1, 0, 1);
        adds(1, 2, 3, 2, 3, 2, 3);
        // 4, 4, 3, 3: the third has 3.
        due("taken", x.merge(0, 1), 2);
        slots(0, 0, 1, 1, 1);
        due("c is lost", x.told(0, 2), 3);
    }

    @Says("are these more than SLOTS NODES")
    void twiceSixteenNodesArePutTogether() {
        begin(64, 16);
        for (int i = 0; i < 16; i += 2) {
            for (int times = 0; times <= i / 2; times++) {
                x.add(0, i, i + 1);
                x.add(1, i + 16, i + 17);
            }
        }
        // Each of the counts 1 .. 8 stands four times: place 17 has the first 4.
        due("taken", x.merge(0, 1), 16);
        slots(0, 14, 4, 15, 4, 30, 4, 31, 4, 12, 3, 13, 3, 28, 3, 29, 3,
            10, 2, 11, 2, 26, 2, 27, 2, 8, 1, 9, 1, 24, 1, 25, 1);
        due("c is lost", x.told(0, 2), 4);
    }

    @Says("those with 0 or less are free")
    void nodesWithCAndWithLessAreFree() {
        begin(8, 3);
        adds(0, 0, 1, 0, 1, 0, 1, 0, 2);
        adds(1, 3, 4, 3, 4, 3, 5);
        // 0: 4, 1: 3, 3: 3, 4: 2, 2: 1, 5: 1; the fourth has 2.
        due("taken", x.merge(0, 1), 3);
        slots(0, 0, 2, 1, 1, 3, 1);
        due("4 has 0", x.span(0, 4, 0), 0);
        due("2 has not less than 0", x.span(0, 2, 0), 0);
        due("5 has not less than 0", x.span(0, 5, 0), 0);
        due("lost", x.told(0, 2), 2);
    }

    @Says("those with 0 or less are free")
    void ofAlikeOnesAtTheEdgeAllAreFree() {
        begin(8, 2);
        adds(0, 0, 1);
        adds(1, 0, 2);
        // 0: 2, 1: 1, 2: 1: the second is as great as the third.
        due("taken", x.merge(0, 1), 1);
        slots(0, 0, 1);
        due("lost", x.told(0, 2), 1);
    }

    @Says("those with 0 or less are free")
    void ifAllAreAlikeAllAreFree() {
        begin(64, 16);
        for (int i = 0; i < 16; i += 2) {
            x.add(0, i, i + 1);
        }
        x.add(1, 62, 63);
        due("taken", x.merge(0, 1), 0);
        slots(0);
        due("lost", x.told(0, 2), 1);
        adds(0, 5, 6);
        slots(0, 5, 1, 6, 1);
    }

    @Says("LOST is the sum of both, and c more")
    void lostIsTheSumOfBothAndC() {
        begin(8, 2);
        adds(0, 0, 1, 0, 1, 0, 1, 0, 2);
        adds(1, 3, 4, 3, 4, 3, 5, 3, 6);
        slots(0, 0, 3, 1, 2);
        slots(1, 3, 2);
        due("lost of 0", x.told(0, 2), 1);
        due("lost of 1", x.told(1, 2), 2);
        due("taken", x.merge(0, 1), 1);
        slots(0, 0, 1);
        due("1 and 2 and 2", x.told(0, 2), 5);
        due("the other's stays", x.told(1, 2), 2);
    }

    @Says("COUNTERS and ROWS of a STREAM become what they are put together with those of another one")
    void theSameOtherMayBePutToItAgain() {
        begin(8, 2);
        adds(1, 2, 3, 2, 4);
        slots(1, 2, 1);
        for (int times = 1; times <= 5; times++) {
            due("taken", x.merge(0, 1), 1);
            slots(0, 2, times);
            due("lost", x.told(0, 2), times);
            due("rows", x.sum(0, 2, 0, 0), 2 * times);
        }
    }

    @Says("(which stays)")
    void theOtherStays() {
        begin(8, 2);
        adds(0, 0, 1, 0, 1);
        adds(1, 2, 3);
        x.merge(0, 1);
        tells(1, 1, 2, 0, 1, 1, 1, 8, 2, 3);
        slots(1, 2, 1, 3, 1);
        due("its rows", x.sum(1, 2, 0, 0), 1);
        due("no row of 0", x.sum(1, 0, 0, 0), 0);
    }

    @Says("how many SLOTS are taken")
    void emptyOnesPutTogetherTakeNoSlot() {
        begin(8, 2);
        due("both empty", x.merge(0, 1), 0);
        adds(0, 0, 1);
        due("an empty other", x.merge(0, 1), 2);
        slots(0, 0, 1, 1, 1);
        due("into an empty one", x.merge(2, 0), 2);
        slots(2, 0, 1, 1, 1);
    }

    @Says("BAD: no such STREAMS, the same one twice")
    void noStreamIsPutTogetherWithItself() {
        for (int s = 0; s < 3; s++) {
            adds(s, 0, 1);
            due("merge " + s, x.merge(s, s), BAD);
            due("once yet", x.sum(s, 0, 0, 0), 1);
        }
    }

    @Says("APART (two STREAMS of which N, or SLOTS, STRETCH or SEED are not the same)")
    void anyOneDifferenceKeepsStreamsApart() {
        int[][] forms = {{5, 2, 3, 5}, {7, 2, 3, 5}, {6, 1, 3, 5}, {6, 3, 3, 5}, {6, 2, 1, 5}, {6, 2, 5, 5}, {6, 2, 3, 4}};
        x.begin(0, 6, 2, 3, 5L);
        for (int[] form : forms) {
            x.begin(1, form[0], form[1], form[2], form[3]);
            due("merge", x.merge(0, 1), APART);
            due("merge, the other way", x.merge(1, 0), APART);
            due("same", x.same(0, 1), APART);
            due("same, the other way", x.same(1, 0), APART);
        }
        x.begin(1, 6, 2, 3, 5L);
        due("not apart", x.merge(0, 1), 0);
        due("not apart", x.same(0, 1), 1);
    }

    @Says("APART (two STREAMS of which N, or SLOTS, STRETCH or SEED are not the same)")
    void streamsOfDifferentAgeAreNotApart() {
        begin(6, 2);
        adds(0, 0, 1, 0, 1, 2, 3);
        due("merge", x.merge(1, 0), 0);
        due("same", x.same(1, 0), 1);
    }

    // ---- full

    @Says("FULL: one of the counts that are added (c not yet taken off)")
    void aCountOfABillionIsNotYetFull() {
        grow(4, 2, 0, 1, BILLION - 1);
        x.begin(1, 4, 2, 1, 5L);
        adds(1, 0, 1);
        due("just a billion", x.merge(0, 1), 2);
        slots(0, 0, BILLION, 1, BILLION);
        due("the sum", x.sum(0, 0, 0, 0), BILLION);
    }

    @Says("FULL: one of the counts that are added (c not yet taken off)")
    void aCountOfABillionAndOneIsFull() {
        grow(4, 2, 0, 1, BILLION);
        x.begin(1, 4, 2, 1, 5L);
        adds(1, 0, 1);
        due("one more", x.merge(0, 1), FULL);
        due("into the other", x.merge(1, 0), FULL);
        slots(0, 0, BILLION, 1, BILLION);
        slots(1, 0, 1, 1, 1);
        due("its rows stay", x.sum(0, 0, 0, 0), BILLION);
        due("the other's rows stay", x.sum(1, 0, 0, 0), 1);
    }

    @Says("FULL: one of the counts that are added (c not yet taken off)")
    void oneCountAboveIsEnough() {
        grow(4, 3, 1, 2, BILLION);
        x.begin(1, 4, 3, 1, 5L);
        adds(1, 0, 2);
        due("node 2's", x.merge(0, 1), FULL);
        x.begin(1, 4, 3, 1, 5L);
        adds(1, 1, 0);
        due("node 1's", x.merge(0, 1), FULL);
    }

    @Says("(c not yet taken off)")
    void cIsNotTakenOffBeforeTheCountIsLookedAt() {
        grow(4, 2, 0, 1, BILLION);
        x.begin(1, 4, 2, 1, 5L);
        adds(1, 0, 2);
        due("a billion and one, c is 1", x.merge(0, 1), FULL);
        due("lost stays", x.told(0, 2), 0);
        x.begin(1, 4, 2, 1, 5L);
        adds(1, 2, 3);
        due("a billion, c is 1", x.merge(0, 1), 2);
        slots(0, 0, BILLION - 1, 1, BILLION - 1);
        due("lost", x.told(0, 2), 1);
    }

    @Says("FULL: one of the counts that are added (c not yet taken off)")
    void aCountThatIsAboveAlreadyIsFullWithAnEmptyOther() {
        grow(4, 2, 0, 1, BILLION);
        adds(0, 0, 1);
        due("arcs go on coming", x.span(0, 0, 0), BILLION + 1);
        x.begin(1, 4, 2, 1, 5L);
        due("with an empty one", x.merge(0, 1), FULL);
        due("into an empty one", x.merge(1, 0), FULL);
        due("stays", x.span(1, 0, 0), 0);
    }

    @Says("or LOST as it would be then (the sum of both, and c), would be above 1000000000")
    void lostOfABillionIsNotYetFull() {
        grow(2, 1, 0, 1, BILLION - 1);
        due("lost", x.told(0, 2), BILLION - 1);
        x.begin(1, 2, 1, 1, 5L);
        adds(1, 0, 1);
        due("just a billion", x.merge(0, 1), 0);
        due("lost", x.told(0, 2), BILLION);
        due("to", x.span(0, 0, 1), BILLION);
    }

    @Says("or LOST as it would be then (the sum of both, and c), would be above 1000000000")
    void lostOfABillionAndOneIsFull() {
        grow(2, 1, 0, 1, BILLION);
        x.begin(1, 2, 1, 1, 5L);
        adds(1, 0, 1);
        due("one more", x.merge(0, 1), FULL);
        due("into the other", x.merge(1, 0), FULL);
        due("lost stays", x.told(0, 2), BILLION);
        due("the other's lost stays", x.told(1, 2), 1);
        due("its rows stay", x.sum(0, 0, 0, 0), BILLION);
        due("the other's rows stay", x.sum(1, 1, 0, 0), -1);
    }

    @Says("LOST as it would be then (the sum of both, and c)")
    void lostThatIsAboveAlreadyIsFullWithAnEmptyOther() {
        grow(3, 1, 0, 1, BILLION);
        x.begin(1, 3, 1, 1, 5L);
        due("a billion, nothing more", x.merge(0, 1), 0);
        adds(0, 0, 1);
        due("arcs go on coming", x.told(0, 2), BILLION + 1);
        due("with an empty one", x.merge(0, 1), FULL);
        due("into an empty one", x.merge(1, 0), FULL);
        due("stays", x.told(1, 2), 0);
    }

    /** Puts an arc of other nodes to stream 0 so often that it is c, and lost then is that. */
    private int mergeWithCutOf(int often) {
        grow(4, 2, 0, 1, BILLION);
        x.begin(1, 4, 2, 1, 5L);
        x.merge(1, 0);
        grow(4, 2, 2, 3, often);
        return x.merge(0, 1);
    }

    @Says("LOST as it would be then (the sum of both, and c)")
    void cOfABillionIsNotYetFull() {
        due("all are free", mergeWithCutOf(BILLION), 0);
        due("lost", x.told(0, 2), BILLION);
        x.begin(2, 4, 2, 1, 5L);
        due("put into an empty one", x.merge(2, 0), 0);
        due("lost", x.told(2, 2), BILLION);
        due("two billions", x.merge(0, 2), FULL);
        due("stays", x.told(0, 2), BILLION);
    }

    /** Stream 0 has lost one, and its greater count is c. */
    private int mergeWithOneLostAndCutOf(int often) {
        grow(6, 2, 0, 1, BILLION);
        x.begin(1, 6, 2, 1, 5L);
        x.merge(1, 0);
        grow(6, 2, 2, 3, often);
        adds(0, 2, 4);
        slots(0, 2, often, 3, often - 1);
        return x.merge(0, 1);
    }

    @Says("LOST as it would be then (the sum of both, and c)")
    void oneThatWasLostAndCAreABillion() {
        due("just a billion", mergeWithOneLostAndCutOf(BILLION - 1), 2);
        slots(0, 0, 1, 1, 1);
        due("lost", x.told(0, 2), BILLION);
    }

    @Says("LOST as it would be then (the sum of both, and c)")
    void oneThatWasLostAndCAreABillionAndOne() {
        due("one more", mergeWithOneLostAndCutOf(BILLION), FULL);
        due("into the other", x.merge(1, 0), FULL);
        slots(0, 2, BILLION, 3, BILLION - 1);
        slots(1, 0, BILLION, 1, BILLION);
        due("lost stays", x.told(0, 2), 1);
        due("the other's lost stays", x.told(1, 2), 0);
    }

    @Says("would be above 1000000000")
    void sumsFarAboveAnIntAreFullToo() {
        grow(4, 2, 0, 1, BILLION);
        x.begin(1, 4, 2, 1, 5L);
        x.merge(1, 0);
        due("two billions", x.merge(0, 1), FULL);
        for (int i = 0; i < 100; i++) {
            x.add(0, 0, 1);
        }
        due("more", x.merge(0, 1), FULL);
        due("stays", x.span(0, 0, 0), BILLION + 100);
    }

    @Says("would be above 1000000000")
    void lostFarAboveAnIntIsFullToo() {
        grow(4, 2, 2, 3, BILLION);
        x.begin(1, 4, 2, 1, 5L);
        x.merge(1, 0);
        grow(4, 2, 0, 1, BILLION);
        x.begin(2, 4, 2, 1, 5L);
        x.merge(2, 0);
        due("0 loses a billion", x.merge(0, 1), 0);
        due("1 has lost it too", x.merge(1, 0), 2);
        due("0 counts a billion again", x.merge(0, 2), 2);
        due("both have lost a billion, and c is one", x.merge(0, 1), FULL);
        due("the other way", x.merge(1, 0), FULL);
        slots(0, 0, BILLION, 1, BILLION);
        slots(1, 2, BILLION, 3, BILLION);
        due("lost stays", x.told(0, 2), BILLION);
        due("the other's lost stays", x.told(1, 2), BILLION);
    }

    @Says("from its count (0 without a SLOT) to that and LOST")
    void aSpanMayReachTwoBillions() {
        due("all are free", mergeWithCutOf(BILLION), 0);
        due("a billion lost and a billion counted", x.merge(1, 0), 2);
        due("from", x.span(1, 0, 0), BILLION);
        due("to", x.span(1, 0, 1), 2 * BILLION);
        due("to, without a slot", x.span(1, 3, 1), BILLION);
    }
}
