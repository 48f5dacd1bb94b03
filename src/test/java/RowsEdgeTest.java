/** Rows: keys, levels and sums, also when they run over, and whether rows are the same. */
public final class RowsEdgeTest extends Scene {
    public static void main(String[] args) throws Exception {
        play(RowsEdgeTest.class);
    }

    // ---- keys

    @Says("The KEY of an ARC of a and b, a below b, is 64 a + b.")
    void theKeyIsTheSameHoweverTheArcComes() {
        int[][] arcs = {{0, 1, 1}, {0, 63, 63}, {1, 2, 66}, {1, 63, 127}, {62, 63, 4031}};
        for (int[] arc : arcs) {
            for (int way = 0; way < 2; way++) {
                x.begin(0, 64, 2, 3, 5L);
                due("add", x.add(0, arc[way], arc[1 - way]), 1);
                due("sum of a", x.sum(0, arc[0], 0, 1), arc[2]);
                due("sum of b", x.sum(0, arc[1], 0, 1), -arc[2]);
                due("out of a", x.out(0, 1L << arc[0]), arc[2]);
                due("out of b", x.out(0, 1L << arc[1]), arc[2]);
                due("taken the other way round", x.take(0, arc[1 - way], arc[way]), Model.levelOf(5L, arc[2]));
                due("out of a", x.out(0, 1L << arc[0]), NOTHING);
            }
        }
    }

    // ---- levels

    /** By the seed the arc has the level, and is in the rows at the levels up to it and no further. */
    private void hasLevel(long seed, int a, int b, int want) {
        x.begin(0, 64, 2, 3, seed);
        x.begin(1, 64, 2, 3, seed);
        x.add(0, a, b);
        for (int level = 0; level < 10; level++) {
            due("seed " + seed + " at level " + level, x.sum(0, a, level, 0), level <= want ? 1 : 0);
        }
        due("seed " + seed, x.take(1, a, b), want);
    }

    @Says("how many of its lowest bits are 0 before the first 1")
    void theLevelIsHowManyLowestBitsAre0() {
        // By these seeds z is 1, all bits 1, 2, 256 and 768.
        hasLevel(6484845150626303400L, 0, 1, 0);
        hasLevel(-7842155372514724458L, 0, 1, 0);
        hasLevel(-1122368190340230261L, 0, 1, 1);
        hasLevel(-6325076032657821054L, 0, 1, 8);
        hasLevel(5098036743348413106L, 62, 63, 8);
    }

    @Says("but at most 9")
    void nineBitsOf0AreLevel9() {
        // By these seeds z is 512, with the top bit too, and with bit 40 too.
        hasLevel(-8249358235561802550L, 0, 1, 9);
        hasLevel(-5274645198802708635L, 0, 1, 9);
        hasLevel(-482685843617163822L, 62, 63, 9);
    }

    @Says("but at most 9")
    void moreThanNineBitsOf0AreLevel9() {
        // By these seeds the lowest bit of z that is 1 is bit 10, 32, 40 and 63.
        hasLevel(6302713150342922702L, 0, 1, 9);
        hasLevel(4058122675246810629L, 1, 2, 9);
        hasLevel(-2591598067007156725L, 1, 2, 9);
        hasLevel(-7947032317802653392L, 0, 1, 9);
    }

    @Says("but at most 9")
    void noBitOf1IsLevel9() {
        hasLevel(-4354685564936845354L, 0, 1, 9);
        hasLevel(1604080173066335552L, 62, 63, 9);
    }

    @Says("(64 bits, all runs over)")
    void seedsAtTheEndsOfALong() {
        int[][] arcs = {{0, 1}, {0, 2}, {0, 3}, {1, 2}, {1, 3}, {2, 3}};
        long[] seeds = {Long.MIN_VALUE, Long.MAX_VALUE, -1L, 0L};
        int[][] levels = {{1, 6, 0, 0, 2, 2}, {0, 4, 0, 0, 2, 0}, {0, 0, 1, 0, 0, 0}, {2, 0, 2, 1, 0, 2}};
        for (int i = 0; i < seeds.length; i++) {
            for (int j = 0; j < arcs.length; j++) {
                hasLevel(seeds[i], arcs[j][0], arcs[j][1], levels[i][j]);
            }
        }
    }

    @Says("(64 bits, all runs over)")
    void theUpperHalfOfASeedCounts() {
        hasLevel(5L, 0, 1, 3);
        hasLevel(5L + (1L << 32), 0, 1, 4);
        hasLevel(5L + (2L << 32), 0, 1, 1);
        hasLevel(5L + (1L << 32), 0, 2, 3);
        hasLevel(5L + (2L << 32), 0, 2, 2);
    }

    @Says("z = (z ^ z >>> 30) 0xBF58476D1CE4E5B9; z = (z ^ z >>> 27) 0x94D049BB133111EB")
    void shiftsBringBitsOf0FromAbove() {
        // By these seeds z is below 0 before a shift, and bits of 1 from above would give another level.
        hasLevel(13L, 0, 2, 3);
        hasLevel(26L, 0, 2, 3);
        hasLevel(47L, 0, 2, 3);
        hasLevel(97L, 0, 2, 6);
        hasLevel(182L, 0, 2, 6);
        hasLevel(239L, 0, 2, 7);
    }

    @Says("z is SEED + (KEY + 1) 0x9E3779B97F4A7C15")
    void eachArcHasTheLevelOfItsKey() {
        for (long seed : new long[] {5L, -77L, 0x123456789ABCDEFL}) {
            for (int a = 0; a < 63; a++) {
                renew();
                x.begin(0, 64, 2, 3, seed);
                for (int b = a + 1; b < 64; b++) {
                    due("level of " + a + " " + b, x.take(0, b, a), Model.levelOf(seed, 64 * a + b));
                }
            }
        }
    }

    // ---- sums

    /** By this seed the arc of 0 and 1 has level 9. */
    private static final long HIGH = -4354685564936845354L;

    @Says("three sums, 0 at first")
    void allSumsAre0AtFirst() {
        for (int node = 0; node < 2; node++) {
            for (int level = 0; level < 10; level++) {
                for (int which = 0; which < 3; which++) {
                    due("sum", x.sum(0, node, level, which), 0);
                }
            }
        }
    }

    @Says("adds, at each level up to its LEVEL, to those of a 1, KEY, KEY KEY, and takes these from those of b")
    void anArcIsInAllSumsUpToItsLevel() {
        long[] due = {1, 4031, 4031 * 4031};
        int top = Model.levelOf(7L, 4031);
        x.begin(0, 64, 2, 3, 7L);
        x.add(0, 62, 63);
        for (int level = 0; level < 10; level++) {
            for (int which = 0; which < 3; which++) {
                due("of a", x.sum(0, 62, level, which), level <= top ? due[which] : 0);
                due("of b", x.sum(0, 63, level, which), level <= top ? -due[which] : 0);
                due("of another", x.sum(0, 61, level, which), 0);
            }
        }
    }

    @Says("one that is taken away the other way round")
    void anArcTakenAwayIsTakenFromA() {
        x.begin(0, 64, 2, 3, HIGH);
        adds(0, 0, 1, 0, 1, 0, 1);
        due("its level", x.take(0, 0, 1), 9);
        for (int level = 0; level < 10; level++) {
            for (int which = 0; which < 3; which++) {
                due("of a", x.sum(0, 0, level, which), 2);
                due("of b", x.sum(0, 1, level, which), -2);
            }
        }
    }

    @Says("(An ARC may be taken away that never came.)")
    void anArcThatNeverCameMayBeTakenAway() {
        x.begin(0, 64, 2, 3, HIGH);
        due("its level", x.take(0, 1, 0), 9);
        due("of a", x.sum(0, 0, 9, 0), -1);
        due("of b", x.sum(0, 1, 9, 2), 1);
        due("none came", x.told(0, 0), 0);
        due("and once more", x.take(0, 0, 1), 9);
        due("of a", x.sum(0, 0, 9, 0), -2);
        adds(0, 0, 1, 1, 0);
        for (int level = 0; level < 10; level++) {
            due("then it came twice", x.sum(0, 0, level, 1), 0);
        }
        due("nothing is left", x.out(0, 1L), NOTHING);
        due("two came", x.told(0, 0), 2);
    }

    @Says("A sum of a NODE at a level: which = 0, 1, 2. 0: no such one.")
    void thereIsNoSumBesideThose() {
        x.begin(0, 2, 2, 3, HIGH);
        adds(0, 0, 1);
        due("the last of 0", x.sum(0, 0, 9, 2), 1);
        due("the first of 1", x.sum(0, 1, 0, 0), -1);
        for (int level : new int[] {-1, 10, 11, 20, -10, LEAST, MOST}) {
            due("level " + level + " of 0", x.sum(0, 0, level, 0), 0);
            due("level " + level + " of 1", x.sum(0, 1, level, 2), 0);
        }
        for (int which : new int[] {-1, 3, 4, -3, LEAST, MOST}) {
            due("which " + which + " of 0", x.sum(0, 0, 5, which), 0);
            due("which " + which + " of 1", x.sum(0, 1, 5, which), 0);
        }
        for (int node : new int[] {-1, 2, 3, 64, LEAST, MOST}) {
            due("node " + node, x.sum(0, node, 0, 0), 0);
        }
        for (int stream : WRONG_STREAMS) {
            due("stream " + stream, x.sum(stream, 0, 0, 0), 0);
        }
    }

    @Says("An ARC of a and b is taken away from the ROWS: its LEVEL. BAD as add().")
    void takeRefusesWhatAddRefuses() {
        x.begin(0, 5, 2, 3, 5L);
        for (int[] arc : new int[][] {{-1, 0}, {0, -1}, {5, 0}, {0, 5}, {0, 0}, {4, 4}, {5, 5}, {LEAST, MOST}}) {
            due("add " + arc[0] + " " + arc[1], x.add(0, arc[0], arc[1]), BAD);
            due("take " + arc[0] + " " + arc[1], x.take(0, arc[0], arc[1]), BAD);
        }
        due("the first", x.take(0, 0, 1), 3);
        due("the last", x.take(0, 4, 3), Model.levelOf(5L, 196));
    }

    // ---- sums that run over

    private void beginAll(int nodes, long seed) {
        for (int s = 0; s < 3; s++) {
            x.begin(s, nodes, 1, 1, seed);
        }
    }

    @Says("sums are added. (Sums are longs that run over.)")
    void aSumGrowsToTheLeastLongAndThenTo0() {
        beginAll(2, HIGH);
        x.take(0, 0, 1);
        doubleRows(62, 2, HIGH);
        due("of a", x.sum(0, 0, 9, 0), -(1L << 62));
        due("of b", x.sum(0, 1, 9, 0), 1L << 62);
        doubleRows(1, 2, HIGH);
        due("of a", x.sum(0, 0, 0, 1), Long.MIN_VALUE);
        due("of b runs over", x.sum(0, 1, 9, 2), Long.MIN_VALUE);
        due("not nothing", x.out(0, 1L), UNSURE);
        due("not the same", x.same(0, 1), 0);
        doubleRows(1, 2, HIGH);
        due("of a runs over", x.sum(0, 0, 0, 0), 0);
        due("of b runs over", x.sum(0, 1, 9, 2), 0);
        due("nothing", x.out(0, 1L), NOTHING);
        due("the same as nothing", x.same(0, 1), 1);
    }

    @Says("(Sums are longs that run over.)")
    void anArcThatComesOrLeavesMayRunASumOver() {
        beginAll(2, HIGH);
        x.take(0, 0, 1);
        doubleRows(63, 2, HIGH);
        x.take(0, 0, 1);
        due("of a", x.sum(0, 0, 9, 0), Long.MAX_VALUE);
        due("of b", x.sum(0, 1, 9, 0), -Long.MAX_VALUE);
        x.add(0, 0, 1);
        due("of a", x.sum(0, 0, 9, 1), Long.MIN_VALUE);
        x.add(0, 0, 1);
        due("of b", x.sum(0, 1, 9, 2), Long.MAX_VALUE);
    }

    @Says("(Sums are longs that run over.)")
    void theSumOfSquaresRunsOverFirst() {
        beginAll(64, 5L);
        x.take(0, 62, 63);
        doubleRows(45, 64, 5L);
        long often = 1L << 45;
        due("count", x.sum(0, 63, 0, 0), often);
        due("keys", x.sum(0, 63, 0, 1), often * 4031);
        due("squares", x.sum(0, 63, 0, 2), -139576404076396544L);
        due("squares of a", x.sum(0, 62, 0, 2), 139576404076396544L);
    }

    @Says("PUT TOGETHER: sums are added.")
    void rowsOfTwoStreamsAreAdded() {
        for (int s = 0; s < 3; s++) {
            x.begin(s, 64, 3, 3, 5L);
        }
        adds(0, 0, 1, 62, 63);
        x.take(1, 0, 1);
        x.add(1, 0, 63);
        x.merge(0, 1);
        adds(2, 0, 63, 63, 62);
        due("as if all were in one", x.same(0, 2), 1);
        due("of 63", x.sum(0, 63, 0, 1), -63 - 4031);
        due("the other's stay", x.sum(1, 63, 0, 1), -63);
    }

    // ---- same

    @Says("Whether the ROWS of two STREAMS are the same: 1, 0.")
    void emptyRowsAndAStreamWithItselfAreTheSame() {
        due("empty", x.same(0, 1), 1);
        due("empty", x.same(2, 0), 1);
        adds(0, 0, 1);
        due("with itself", x.same(0, 0), 1);
        due("empty with itself", x.same(1, 1), 1);
    }

    @Says("Whether the ROWS of two STREAMS are the same: 1, 0.")
    void rowsAloneAreLookedAt() {
        for (int s = 0; s < 3; s++) {
            x.begin(s, 6, 2, 3, 5L);
        }
        adds(0, 0, 1, 2, 3, 4, 5);
        due("not", x.same(0, 1), 0);
        takes(0, 4, 5, 2, 3);
        adds(1, 1, 0);
        due("the rest is not looked at", x.same(0, 1), 1);
        due("the other way", x.same(1, 0), 1);
    }

    @Says("Whether the ROWS of two STREAMS are the same: 1, 0.")
    void oneArcOfAnyNodesMakesTheDifference() {
        for (int node = 0; node < 63; node++) {
            x.begin(0, 64, 2, 3, 5L);
            x.begin(1, 64, 2, 3, 5L);
            x.add(0, node, node + 1);
            due("came, " + node, x.same(0, 1), 0);
            x.take(1, node, node + 1);
            due("came, and left the other, " + node, x.same(1, 0), 0);
        }
    }

    @Says("Whether the ROWS of two STREAMS are the same: 1, 0.")
    void rowsMayDifferAboveLevel0Alone() {
        int[] ring = {0, 2, 2, 4, 4, 6, 0, 6};
        long seed = Levels.seedFor(ring, 1, 0, 0, 0);
        beginAll(7, seed);
        takes(0, ring);
        doubleRows(63, 7, seed);
        // Each node has two arcs, each of an even key, 2^63 times: at level 0 all runs over to 0.
        for (int node = 0; node < 7; node++) {
            for (int which = 0; which < 3; which++) {
                due("level 0 of " + node, x.sum(0, node, 0, which), 0);
            }
        }
        due("level 1 of 0", x.sum(0, 0, 1, 0), Long.MIN_VALUE);
        due("not the same", x.same(0, 1), 0);
        due("not the same, the other way", x.same(1, 0), 0);
        due("but level 0 tells nothing", x.out(0, 1L), NOTHING);
    }

    /** All sums of stream 0 are 0, but for those of one kind; so its rows are not those of stream 1. */
    private void differsInOneOf3Sums(int nodes, int which) {
        for (int node = 0; node < nodes; node++) {
            for (int level = 0; level < 2; level++) {
                due("sum of " + node, x.sum(0, node, level, (which + 1) % 3), 0);
                due("sum of " + node, x.sum(0, node, level, (which + 2) % 3), 0);
            }
        }
        due("the sum of 0 differs", x.sum(0, 0, 0, which) != 0 ? 1 : 0, 1);
        due("not the same", x.same(0, 1), 0);
        due("not the same, the other way", x.same(1, 0), 0);
    }

    @Says("Whether the ROWS of two STREAMS are the same: 1, 0.")
    void rowsMayDifferInCountsAlone() {
        int[] arc = {0, 2};
        long seed = Levels.seedFor(arc, 0);
        beginAll(3, seed);
        takes(0, arc);
        doubleRows(63, 3, seed);
        differsInOneOf3Sums(3, 0);
    }

    @Says("Whether the ROWS of two STREAMS are the same: 1, 0.")
    void rowsMayDifferInKeysAlone() {
        int[] arcs = {0, 2, 0, 4, 1, 2, 1, 4};
        long seed = Levels.seedFor(arcs, 0, 0, 0, 0);
        beginAll(5, seed);
        takes(0, arcs);
        takes(0, 0, 4, 0, 4, 1, 2, 1, 2);
        doubleRows(62, 5, seed);
        differsInOneOf3Sums(5, 1);
    }

    @Says("Whether the ROWS of two STREAMS are the same: 1, 0.")
    void rowsMayDifferInSquaresAlone() {
        int[] arcs = {0, 3, 0, 4, 0, 5, 1, 3, 1, 4, 1, 5, 2, 3, 2, 4, 2, 5};
        beginAll(6, Levels.seedFor(arcs, new int[9]));
        adds(0, 0, 3, 0, 5, 2, 3, 2, 5, 1, 4, 1, 4, 1, 4, 1, 4);
        takes(0, 0, 4, 0, 4, 2, 4, 2, 4, 1, 3, 1, 3, 1, 5, 1, 5);
        differsInOneOf3Sums(6, 2);
    }

    @Says("Whether the ROWS of two STREAMS are the same: 1, 0. BAD; APART.")
    void sameRefuses() {
        x.begin(1, 3, 1, 1, 0L);
        due("apart", x.same(0, 1), APART);
        due("not apart", x.same(0, 2), 1);
        due("apart from none", x.same(1, 1), 1);
        for (int s : WRONG_STREAMS) {
            due("stream " + s, x.same(s, 0), BAD);
            due("other " + s, x.same(0, s), BAD);
            due("both " + s, x.same(s, s), BAD);
        }
    }
}
