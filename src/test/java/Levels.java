/** Finds seeds by which arcs have levels that a test wants. */
final class Levels {
    private static final int MOST_TRIES = 1000000;

    private Levels() {
    }

    /** The least seed by which the arcs, given by their nodes in turn, have just these levels. */
    static long seedFor(int[] nodes, int... levels) {
        for (long seed = 0; seed < MOST_TRIES; seed++) {
            if (fits(seed, nodes, levels)) {
                return seed;
            }
        }
        throw new IllegalStateException("no such seed");
    }

    private static boolean fits(long seed, int[] nodes, int[] levels) {
        for (int i = 0; i < levels.length; i++) {
            int a = Math.min(nodes[2 * i], nodes[2 * i + 1]), b = Math.max(nodes[2 * i], nodes[2 * i + 1]);
            if (Model.levelOf(seed, 64 * a + b) != levels[i]) {
                return false;
            }
        }
        return true;
    }
}
