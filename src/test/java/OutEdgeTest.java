import java.math.BigInteger;

/** Out of a set: a key by the greatest level, nothing, or unsure; and the level that is told then. */
public final class OutEdgeTest extends Scene {
    private static final BigInteger TWO = BigInteger.valueOf(2);
    /** Arcs of node 0, and a seed by which they have level 0. */
    private static final int[] THREE = {0, 1, 0, 2, 0, 3};
    private static final long LOW = Levels.seedFor(THREE, 0, 0, 0);
    /** By this seed the arc of 0 and 1 has level 9. */
    private static final long HIGH = -4354685564936845354L;
    /** Keys of node 0 of which the first three and the last three have alike sums, also of squares. */
    private static final int[] ALIKE = {0, 1, 0, 5, 0, 6, 0, 2, 0, 3, 0, 7};

    public static void main(String[] args) throws Exception {
        play(OutEdgeTest.class);
    }

    /**
     * Lets node 0 have just these sums at level 0, by arcs to 1, 2 and 3 that are taken away so many
     * times (doubled over stream 2): the times are what solves the three equations, all running over.
     */
    private int outOfSums(int nodes, long set, long c, long e, long f) {
        renew();
        BigInteger twice = big(f).subtract(big(e).multiply(BigInteger.valueOf(3))).add(big(c).multiply(TWO));
        BigInteger third = twice.divide(TWO);
        BigInteger second = big(e).subtract(big(c)).subtract(third.multiply(TWO));
        long[] taken = {-big(c).subtract(second).subtract(third).longValue(), -second.longValue(), -third.longValue()};
        x.begin(0, nodes, 1, 1, LOW);
        boolean any = false;
        for (int bit = 63; bit >= 0; bit--) {
            if (any) {
                doubleRows(1, nodes, LOW);
            }
            for (int i = 0; i < 3; i++) {
                if ((taken[i] >>> bit & 1) == 1) {
                    x.take(0, 0, i + 1);
                    any = true;
                }
            }
        }
        due("C", x.sum(0, 0, 0, 0), c);
        due("E", x.sum(0, 0, 0, 1), e);
        due("F", x.sum(0, 0, 0, 2), f);
        return x.out(0, set);
    }

    /** Sums of node 0 that look like one arc with this key came. */
    private int outOfKey(int nodes, long set, long key) {
        return outOfSums(nodes, set, 1, key, key * key);
    }

    private static BigInteger big(long number) {
        return BigInteger.valueOf(number);
    }

    // ---- a key

    @Says("(a, if C is 1, b, if it is -1)")
    void outOfAByOneOutOfBByMinusOne() {
        x.begin(0, 64, 2, 3, 5L);
        adds(0, 62, 63);
        due("of a", x.out(0, 1L << 62), 4031);
        due("of b", x.out(0, 1L << 63), 4031);
        due("of all but a", x.out(0, ~(1L << 62)), 4031);
        due("of all but b", x.out(0, ~(1L << 63)), 4031);
    }

    @Says("(a, if C is 1, b, if it is -1)")
    void oneThatNeverCameLeadsNowhere() {
        x.begin(0, 64, 2, 3, 5L);
        x.take(0, 62, 63);
        due("C is -1, but a is in the set", x.out(0, 1L << 62), UNSURE);
        due("C is 1, but b is in the set", x.out(0, 1L << 63), UNSURE);
        due("both", x.out(0, 3L << 62), NOTHING);
    }

    @Says("C is 1 or -1")
    void noOtherCountWillDo() {
        for (long c : new long[] {0, 2, -2, 3, -3, 1L << 32, (1L << 32) + 1, (1L << 32) - 1, Long.MIN_VALUE, Long.MAX_VALUE}) {
            due("C is " + c, outOfSums(4, 1L, c, 1, 1), UNSURE);
        }
        due("C is 1", outOfSums(4, 1L, 1, 1, 1), 1);
    }

    @Says("C is 1 or -1")
    void noOtherCountWillDoThoughTheRestWould() {
        // E C is the key of 3 and 4, or of 1 and 2, and F C its square.
        due("C is 2", outOfSums(64, 1L, 2, 98, 19208), UNSURE);
        due("C is -2", outOfSums(64, 1L, -2, -98, -19208), UNSURE);
        due("C is 3", outOfSums(64, 1L, 3, 22, 1452), UNSURE);
        due("C is 0", outOfSums(64, 1L, 0, 66, 4356), UNSURE);
    }

    @Says("C is 1 or -1")
    void anArcThatCameTwiceLeadsNowhere() {
        x.begin(0, 6, 2, 3, 5L);
        adds(0, 2, 4, 4, 2);
        due("of a", x.out(0, 1L << 2), UNSURE);
        due("of b", x.out(0, 1L << 4), UNSURE);
        x.take(0, 2, 4);
        due("once yet", x.out(0, 1L << 2), 132);
    }

    @Says("E C is a KEY k of two NODES a, b of the STREAM, a below b")
    void keysOfTwoNodesOfTheStream() {
        due("0 and 1", outOfKey(8, 1L, 1), 1);
        due("0 and 3", outOfKey(4, 1L, 3), 3);
        due("0 and 7, though it is sums of others", outOfKey(8, 1L, 7), 7);
        due("0 and 63", outOfKey(64, 1L, 63), 63);
    }

    @Says("two NODES a, b of the STREAM")
    void noKeyOfNodesThatTheStreamHasNot() {
        due("no node 4", outOfKey(4, 1L, 4), UNSURE);
        due("no node 4, its bit is in the set", outOfKey(4, 16L, 4), NOTHING);
        due("no node 7", outOfKey(7, 1L, 7), UNSURE);
        due("no node 63", outOfKey(63, 1L, 63), UNSURE);
        due("no nodes 4 and 5", outOfKey(4, 1L, 64 * 4 + 5), UNSURE);
        due("no node 64", outOfKey(64, 1L, 64 * 64 + 1), UNSURE);
    }

    @Says("a below b")
    void noKeyOfANodeWithItselfOrALesserOne() {
        due("0 and 0", outOfKey(64, 1L, 0), UNSURE);
        due("1 and 1", outOfKey(64, 1L, 65), UNSURE);
        due("1 and 0", outOfKey(64, 1L, 64), UNSURE);
        due("1 and 0, with 1 in the set", outOfMix(64, 2L, new int[] {1, 2, 1, 4, 1, 12}, 1, 8, 1, 10), UNSURE);
        due("2 and 1, with 2 in the set", outOfMix(64, 4L, new int[] {2, 3, 2, 5, 2, 13}, 2, 9, 2, 11), UNSURE);
    }

    @Says("E C is a KEY k")
    void noKeyBelow0OrBeyondAllKeys() {
        long[] keys = {-1, -63, -64, -4031, 4096, 4097, 1L << 31, 1L << 32, (1L << 32) + 1, 1 - (1L << 32),
            (1L << 40) + 3, Long.MIN_VALUE, Long.MIN_VALUE + 1, Long.MAX_VALUE};
        for (long key : keys) {
            due("key " + key, outOfKey(64, 1L, key), UNSURE);
        }
    }

    @Says("just one of which is in the set")
    void noKeyOfTwoNodesBothOrNeitherOfWhichIsInTheSet() {
        due("0 and 1", outOfKey(64, 1L, 1), 1);
        due("1 and 2, neither", outOfKey(64, 1L, 66), UNSURE);
        due("62 and 63, neither", outOfKey(64, 1L, 4031), UNSURE);
        due("0 and 7", outOfKey(64, 1L, 7), 7);
        due("0 and 7, both", outOfKey(64, 1L | 1L << 7, 7), UNSURE);
        due("0 and 63, both", outOfKey(64, 1L | 1L << 63, 63), UNSURE);
    }

    @Says("F C is k k")
    void noKeyByOtherSquares() {
        for (long f : new long[] {3, -1, 5, 49, 1 + (1L << 32), 1 - (1L << 32), Long.MIN_VALUE + 1, Long.MAX_VALUE}) {
            due("F is " + f, outOfSums(4, 1L, 1, 1, f), UNSURE);
        }
        for (long f : new long[] {0, 2, -4, 8, 4 + (1L << 32), Long.MIN_VALUE + 4}) {
            due("F is " + f, outOfSums(4, 1L, 1, 2, f), UNSURE);
        }
        due("F is 4", outOfSums(4, 1L, 1, 2, 4), 2);
    }

    @Says("F C is k k")
    void byMinusOneAllThreeHaveTheOtherSign() {
        due("-1, -1, -1, but it is a", outOfSums(4, 1L, -1, -1, -1), UNSURE);
        due("-1, 1, 1", outOfSums(4, 1L, -1, 1, 1), UNSURE);
        due("-1, -1, 1", outOfSums(4, 1L, -1, -1, 1), UNSURE);
        // The arcs of 1, 2 and 6 without those of 4 and 5 look like that of 0, in sums and squares.
        int[] came = {1, 7, 2, 7, 6, 7};
        due("of b", outOfMix(8, 1L << 7, came, 4, 7, 5, 7), 7);
        due("of b, with a in the set", outOfMix(8, 1L << 7 | 1L, came, 4, 7, 5, 7), UNSURE);
    }

    // ---- the greatest level

    /** Arcs that came and arcs that were taken away, all of level 0; then out of a set. */
    private int outOfMix(int nodes, long set, int[] came, int... taken) {
        renew();
        int[] all = new int[came.length + taken.length];
        System.arraycopy(came, 0, all, 0, came.length);
        System.arraycopy(taken, 0, all, came.length, taken.length);
        x.begin(0, nodes, 2, 3, Levels.seedFor(all, new int[all.length / 2]));
        adds(0, came);
        takes(0, taken);
        return x.out(0, set);
    }

    /** Lets the arcs of node 0 to 1, 5 and 6 come, and takes away those to 2, 3 and, if told, 7. */
    private void mixAlike(boolean all, int... levels) {
        x.begin(0, 8, 2, 3, Levels.seedFor(ALIKE, levels));
        adds(0, 0, 1, 0, 5, 0, 6);
        takes(0, 0, 2, 0, 3);
        if (all) {
            takes(0, 0, 7);
        }
    }

    @Says("by the greatest level at which this holds of its sums")
    void theGreatestOfSeveralLevels() {
        int[] arcs = {0, 1, 0, 2, 0, 3};
        x.begin(0, 4, 2, 3, Levels.seedFor(arcs, 0, 1, 3));
        adds(0, 0, 1);
        due("alone", x.out(0, 1L), 1);
        due("by", x.level(), 0);
        adds(0, 0, 2);
        due("the higher", x.out(0, 1L), 2);
        due("by", x.level(), 1);
        adds(0, 0, 3);
        due("the highest", x.out(0, 1L), 3);
        due("by", x.level(), 3);
    }

    @Says("by the greatest level at which this holds of its sums")
    void aLevelThatDoesNotHoldIsPassedOver() {
        mixAlike(false, 1, 1, 0, 0, 0, 0);
        due("level 1 has two, level 0 looks like key 7", x.out(0, 1L), 7);
        due("by", x.level(), 0);
    }

    @Says("by the greatest level at which this holds of its sums")
    void levels9And0AreLookedAt() {
        x.begin(0, 2, 1, 1, HIGH);
        adds(0, 0, 1);
        due("by level 9", x.out(0, 1L), 1);
        due("level", x.level(), 9);
        x.begin(0, 4, 1, 1, LOW);
        adds(0, 0, 1);
        due("by level 0", x.out(0, 1L), 1);
        due("level", x.level(), 0);
    }

    @Says("THE SUMS of a set of NODES at a level: its NODES' sums together.")
    void arcsWithinTheSetLeaveNoTrace() {
        x.begin(0, 64, 2, 3, 5L);
        ring(0, 32);
        due("of the ring", x.out(0, 0xFFFFFFFFL), NOTHING);
        due("of the others", x.out(0, 0xFFFFFFFFL << 32), NOTHING);
        adds(0, 40, 7);
        due("of the ring", x.out(0, 0xFFFFFFFFL), 64 * 7 + 40);
        due("of the others", x.out(0, 0xFFFFFFFFL << 32), 64 * 7 + 40);
    }

    @Says("THE SUMS of a set of NODES at a level: its NODES' sums together.")
    void sumsOfASetRunOver() {
        int[] arcs = {0, 2, 4, 6, 0, 1};
        long seed = Levels.seedFor(arcs, 0, 0, 0);
        x.begin(0, 7, 1, 1, seed);
        takes(0, 0, 2, 4, 6);
        doubleRows(63, 7, seed);
        due("of 0", x.out(0, 1L), UNSURE);
        due("of 4", x.out(0, 16L), UNSURE);
        due("of both", x.out(0, 17L), NOTHING);
        adds(0, 0, 1);
        due("of 0", x.out(0, 1L), UNSURE);
        due("of both", x.out(0, 17L), 1);
    }

    @Says("(Sums are longs that run over.)")
    void anArcTakenAwayOnceLessThanAllLongsCameOnce() {
        x.begin(0, 4, 1, 1, HIGH);
        for (int bit = 63; bit >= 0; bit--) {
            doubleRows(1, 4, HIGH);
            x.take(0, 0, 1);
        }
        due("C", x.sum(0, 0, 9, 0), 1);
        due("of a", x.out(0, 1L), 1);
        due("by", x.level(), 9);
        due("of b", x.out(0, 2L), 1);
    }

    // ---- nothing and unsure

    @Says("NOTHING: there is no such level, and all three sums at level 0 are 0.")
    void eachOfTheThreeSumsMustBe0() {
        due("all are 0", outOfSums(4, 1L, 0, 0, 0), NOTHING);
        for (long one : new long[] {2, -2, 1L << 32, Long.MIN_VALUE}) {
            due("C is " + one, outOfSums(4, 1L, one, 0, 0), UNSURE);
            due("E is " + one, outOfSums(4, 1L, 0, one, 0), UNSURE);
            due("F is " + one, outOfSums(4, 1L, 0, 0, one), UNSURE);
        }
        due("C is 1", outOfSums(4, 1L, 1, 0, 0), UNSURE);
        due("C is -1", outOfSums(4, 1L, -1, 0, 0), UNSURE);
    }

    @Says("NOTHING: there is no such level, and all three sums at level 0 are 0.")
    void higherLevelsAreNotLookedAtForNothing() {
        mixAlike(true, 1, 1, 0, 0, 0, 0);
        due("two at level 1", x.sum(0, 0, 1, 0), 2);
        due("nothing at level 0", x.sum(0, 0, 0, 1), 0);
        due("nothing", x.out(0, 1L), NOTHING);
        due("no level", x.level(), NONE);
    }

    @Says("NOTHING: there is no such level")
    void aKeyAtAHigherLevelComesBeforeNothing() {
        mixAlike(true, 1, 0, 0, 0, 0, 0);
        due("nothing at level 0", x.sum(0, 0, 0, 0), 0);
        due("nothing at level 0", x.sum(0, 0, 0, 1), 0);
        due("nothing at level 0", x.sum(0, 0, 0, 2), 0);
        due("key 1", x.out(0, 1L), 1);
        due("by", x.level(), 1);
    }

    @Says("UNSURE: neither.")
    void severalArcsOutAreUnsure() {
        x.begin(0, 4, 1, 1, LOW);
        adds(0, 0, 1, 0, 2);
        due("two", x.out(0, 1L), UNSURE);
        adds(0, 0, 3);
        due("three", x.out(0, 1L), UNSURE);
        due("one of them out of 2", x.out(0, 4L), 2);
        takes(0, 0, 1, 0, 2);
        due("one yet", x.out(0, 1L), 3);
    }

    @Says("OUT of a set of NODES")
    void outOfNoNodeAndOfAllLeadsNothing() {
        for (int nodes : new int[] {2, 33, 64}) {
            x.begin(0, nodes, 2, 3, 5L);
            long all = -1L >>> 64 - nodes;
            due("without arcs, of none", x.out(0, 0L), NOTHING);
            due("without arcs, of all", x.out(0, all), NOTHING);
            ring(0, nodes);
            due("of none", x.out(0, 0L), NOTHING);
            due("of all", x.out(0, all), NOTHING);
        }
    }

    @Says("(bit i: NODE i; other bits are not looked at)")
    void bitsOfNoNodeAreNotLookedAt() {
        for (int nodes : new int[] {2, 3, 31, 32, 33, 62, 63}) {
            x.begin(0, 64, 2, 3, 5L);
            ring(0, 30);
            x.begin(0, nodes, 2, 3, 5L);
            adds(0, 0, nodes - 1);
            long others = -1L << nodes;
            due("of 0", x.out(0, 1L), nodes - 1);
            due("of 0 and other bits", x.out(0, 1L | others), nodes - 1);
            due("of the last and other bits", x.out(0, 1L << nodes - 1 | others), nodes - 1);
            due("of other bits alone", x.out(0, others), NOTHING);
            due("of one other bit", x.out(0, 1L << nodes), NOTHING);
            due("of all bits", x.out(0, -1L), NOTHING);
            due("of none but the top bit", x.out(0, Long.MIN_VALUE), NOTHING);
        }
    }

    @Says("(bit i: NODE i; other bits are not looked at)")
    void eachBitIsItsNode() {
        x.begin(0, 64, 2, 3, 5L);
        x.add(0, 0, 63);
        for (int node = 1; node < 63; node++) {
            due("bit " + node, x.out(0, 1L << node), NOTHING);
        }
        due("bit 0", x.out(0, 1L), 63);
        due("bit 63", x.out(0, 1L << 63), 63);
    }

    @Says("LEADS: a KEY. BAD; NOTHING; UNSURE.")
    void outOfNoStreamIsBad() {
        for (int s : WRONG_STREAMS) {
            for (long set : new long[] {0L, 1L, -1L, Long.MIN_VALUE}) {
                due("stream " + s, x.out(s, set), BAD);
            }
        }
        due("no set is bad", x.out(0, Long.MIN_VALUE), NOTHING);
    }

    // ---- level

    @Says("NONE: it told none, or there was none.")
    void levelIsNoneBeforeAnyOut() {
        due("new", x.level(), NONE);
        adds(0, 0, 1);
        due("an arc came", x.level(), NONE);
        x.take(1, 0, 1);
        x.merge(0, 1);
        due("a take, a merge", x.level(), NONE);
    }

    /** The latest out() told a key by level 9. */
    private void tellByLevel9() {
        x.begin(0, 2, 1, 1, HIGH);
        adds(0, 0, 1);
        due("out", x.out(0, 1L), 1);
        due("level", x.level(), 9);
    }

    @Says("NONE: it told none")
    void levelIsNoneAfterNothing() {
        tellByLevel9();
        due("out", x.out(0, 3L), NOTHING);
        due("level", x.level(), NONE);
    }

    @Says("NONE: it told none")
    void levelIsNoneAfterUnsure() {
        tellByLevel9();
        adds(0, 0, 1);
        due("out", x.out(0, 1L), UNSURE);
        due("level", x.level(), NONE);
    }

    @Says("What is refused changes nothing.")
    void levelStaysAfterARefusedOut() {
        tellByLevel9();
        for (int s : WRONG_STREAMS) {
            due("out", x.out(s, 1L), BAD);
            due("level", x.level(), 9);
        }
    }

    @Says("The level by which the latest out() told a KEY")
    void levelIsThatOfTheLatestOutOfAnyStream() {
        tellByLevel9();
        x.begin(1, 4, 1, 1, LOW);
        adds(1, 0, 1);
        due("out of another", x.out(1, 1L), 1);
        due("level", x.level(), 0);
        due("out of the first", x.out(0, 2L), 1);
        due("level", x.level(), 9);
        due("out of an empty one", x.out(2, 2L), NOTHING);
        due("level", x.level(), NONE);
    }

    @Says("The level by which the latest out() told a KEY")
    void otherCallsLeaveTheLevel() {
        tellByLevel9();
        due("asked again", x.level(), 9);
        x.take(0, 0, 1);
        due("the arc left", x.level(), 9);
        x.sum(0, 0, 3, 0);
        x.same(0, 0);
        x.merge(1, 2);
        due("sum, same, merge", x.level(), 9);
        x.begin(0, 2, 1, 1, 0L);
        due("its stream began anew", x.level(), 9);
    }
}
