import java.util.Arrays;

/**
 * Keeps little of streams of arcs between nodes: counters of the busiest nodes, a forest of the
 * latest arcs, a thinned graph, a matching, and rows of sums that arcs may leave again.
 */
public final class StreamCounts {
    public static final int BAD = -1, NONE = -2, APART = -3, NOTHING = -4, UNSURE = -5, FULL = -6;

    private static final int STREAMS = 3;
    private static final int LEAST_NODES = 2;
    private static final int MOST_NODES = 64;
    private static final int MOST_SLOTS = 16;
    private static final int MOST_STRETCH = 7;
    // An object is used for at most 512 calls, so no stream ever has more arcs to keep.
    private static final int MOST_ARCS = 512;
    private static final int MOST_COUNT = 1000000000;
    private static final int KEY_STEP = 64;
    private static final int LEVELS = 10;
    private static final int SUMS = 3;

    private final Stream[] streams;
    private int latestLevel;

    public StreamCounts() {
        streams = new Stream[STREAMS];
        for (int i = 0; i < STREAMS; i++) {
            streams[i] = new Stream();
        }
        latestLevel = NONE;
    }

    public int begin(int stream, int nodes, int slots, int stretch, long seed) {
        if (noStream(stream) || nodes < LEAST_NODES || nodes > MOST_NODES) {
            return BAD;
        }
        if (slots < 1 || slots > MOST_SLOTS || !isStretch(stretch)) {
            return BAD;
        }
        int came = streams[stream].age;
        streams[stream].restart(nodes, slots, stretch, seed);
        return came;
    }

    public int add(int stream, int a, int b) {
        if (noArc(stream, a, b)) {
            return BAD;
        }
        return streams[stream].accept(a, b);
    }

    public int take(int stream, int a, int b) {
        if (noArc(stream, a, b)) {
            return BAD;
        }
        return streams[stream].rows.change(Math.min(a, b), Math.max(a, b), -1);
    }

    public int merge(int stream, int other) {
        if (noStream(stream) || noStream(other) || stream == other) {
            return BAD;
        }
        Stream mine = streams[stream];
        Stream theirs = streams[other];
        if (mine.isApartFrom(theirs)) {
            return APART;
        }
        if (!mine.counters.putTogether(theirs.counters)) {
            return FULL;
        }
        mine.rows.putTogether(theirs.rows);
        return mine.counters.taken;
    }

    public int told(int stream, int what) {
        if (noStream(stream)) {
            return BAD;
        }
        Stream asked = streams[stream];
        switch (what) {
            case 0: return asked.age;
            case 1: return asked.counters.taken;
            case 2: return asked.counters.lost;
            case 3: return asked.forest.size;
            case 4: return asked.thinned.size;
            case 5: return asked.matching.pairs;
            case 6: return asked.nodes;
            case 7: return asked.slots;
            case 8: return asked.stretch;
            default: return BAD;
        }
    }

    public int span(int stream, int node, int end) {
        if (noNode(stream, node) || end < 0 || end > 1) {
            return BAD;
        }
        Counters counters = streams[stream].counters;
        return end == 0 ? counters.counts[node] : counters.counts[node] + counters.lost;
    }

    public int slot(int stream, int i, int what) {
        if (noStream(stream) || what < 0 || what > 1) {
            return BAD;
        }
        Counters counters = streams[stream].counters;
        if (i < 0 || i >= counters.taken) {
            return BAD;
        }
        int node = counters.nodeAtPlace(counters.counts, i);
        if (node == NONE) {
            return BAD;
        }
        return what == 0 ? node : counters.counts[node];
    }

    // ---- the forest

    public int parts(int stream, int n) {
        if (noStream(stream) || n < 0) {
            return BAD;
        }
        Stream asked = streams[stream];
        return asked.nodes - asked.forest.arcsAfter(asked.age - n);
    }

    public int part(int stream, int n, int node) {
        if (noNode(stream, node) || n < 0) {
            return BAD;
        }
        Stream asked = streams[stream];
        return asked.forest.leastOfPart(asked.age - n, node);
    }

    public int tree(int stream, int i, int what) {
        if (noStream(stream) || what < 0 || what > 2) {
            return BAD;
        }
        Forest forest = streams[stream].forest;
        if (i < 0 || i >= forest.size) {
            return BAD;
        }
        if (what == 0) {
            return forest.times[i];
        }
        return what == 1 ? lesserNode(forest.keys[i]) : greaterNode(forest.keys[i]);
    }

    public int since(int stream, int a, int b) {
        if (noNode(stream, a) || noNode(stream, b)) {
            return BAD;
        }
        if (a == b) {
            return 0;
        }
        Stream asked = streams[stream];
        int oldest = asked.forest.oldestBetween(a, b);
        if (oldest == NONE) {
            return NONE;
        }
        return asked.age - asked.forest.times[oldest] + 1;
    }

    // ---- the thinned graph, the matching

    public int far(int stream, int a, int b) {
        if (noNode(stream, a) || noNode(stream, b)) {
            return BAD;
        }
        return streams[stream].thinned.distance(a, b, MOST_NODES);
    }

    public int kept(int stream, int i, int what) {
        if (noStream(stream) || what < 0 || what > 2) {
            return BAD;
        }
        Thinned thinned = streams[stream].thinned;
        if (i < 0 || i >= thinned.size) {
            return BAD;
        }
        if (what == 2) {
            return thinned.times[i];
        }
        return what == 0 ? lesserNode(thinned.keys[i]) : greaterNode(thinned.keys[i]);
    }

    public int mate(int stream, int node) {
        if (noNode(stream, node)) {
            return BAD;
        }
        return streams[stream].matching.mates[node];
    }

    // ---- the rows

    public long sum(int stream, int node, int level, int which) {
        if (noNode(stream, node) || level < 0 || level >= LEVELS || which < 0 || which >= SUMS) {
            return 0;
        }
        return streams[stream].rows.sums[Rows.placeOf(node, level) + which];
    }

    public int out(int stream, long set) {
        if (noStream(stream)) {
            return BAD;
        }
        Rows rows = streams[stream].rows;
        latestLevel = NONE;
        for (int level = LEVELS - 1; level >= 0; level--) {
            int key = rows.keyOutOf(set, level);
            if (key != NONE) {
                latestLevel = level;
                return key;
            }
        }
        return rows.isNothing(set) ? NOTHING : UNSURE;
    }

    public int level() {
        return latestLevel;
    }

    public int same(int stream, int other) {
        if (noStream(stream) || noStream(other)) {
            return BAD;
        }
        Stream mine = streams[stream];
        Stream theirs = streams[other];
        if (mine.isApartFrom(theirs)) {
            return APART;
        }
        return mine.rows.isAlike(theirs.rows) ? 1 : 0;
    }

    private static boolean isStretch(int stretch) {
        return stretch >= 1 && stretch <= MOST_STRETCH && (stretch & 1) == 1;
    }

    private static boolean noStream(int stream) {
        return stream < 0 || stream >= STREAMS;
    }

    private boolean noNode(int stream, int node) {
        return noStream(stream) || node < 0 || node >= streams[stream].nodes;
    }

    private boolean noArc(int stream, int a, int b) {
        return noNode(stream, a) || noNode(stream, b) || a == b;
    }

    private static int keyOf(int lesser, int greater) {
        return KEY_STEP * lesser + greater;
    }

    private static int lesserNode(int key) {
        return key / KEY_STEP;
    }

    private static int greaterNode(int key) {
        return key % KEY_STEP;
    }

    private static boolean holds(long set, int node) {
        return (set >>> node & 1L) == 1L;
    }

    /** One stream: what it was begun with, and what is kept of its arcs. */
    private static final class Stream {
        final Counters counters;
        final Forest forest;
        final Thinned thinned;
        final Matching matching;
        final Rows rows;
        int nodes;
        int slots;
        int stretch;
        long seed;
        int age;

        Stream() {
            counters = new Counters();
            forest = new Forest();
            thinned = new Thinned();
            matching = new Matching();
            rows = new Rows();
            restart(LEAST_NODES, 1, 1, 0L);
        }

        void restart(int newNodes, int newSlots, int newStretch, long newSeed) {
            nodes = newNodes;
            slots = newSlots;
            stretch = newStretch;
            seed = newSeed;
            age = 0;
            counters.restart(newNodes, newSlots);
            forest.restart();
            thinned.restart(newNodes, newStretch);
            matching.restart();
            rows.restart(newNodes, newSeed);
        }

        int accept(int a, int b) {
            int lesser = Math.min(a, b);
            int greater = Math.max(a, b);
            age++;
            counters.count(a);
            counters.count(b);
            forest.accept(lesser, greater, age);
            thinned.accept(lesser, greater, age);
            matching.accept(lesser, greater);
            rows.change(lesser, greater, 1);
            return age;
        }

        boolean isApartFrom(Stream other) {
            return nodes != other.nodes || slots != other.slots
                || stretch != other.stretch || seed != other.seed;
        }
    }

    /** The counts of the nodes that have a slot; a node without one has the count 0. */
    private static final class Counters {
        final int[] counts = new int[MOST_NODES];
        private final int[] together = new int[MOST_NODES];
        private int nodes;
        private int slots;
        int taken;
        int lost;

        void restart(int newNodes, int newSlots) {
            nodes = newNodes;
            slots = newSlots;
            taken = 0;
            lost = 0;
            Arrays.fill(counts, 0);
        }

        void count(int node) {
            if (counts[node] > 0) {
                counts[node]++;
            } else if (taken < slots) {
                counts[node] = 1;
                taken++;
            } else {
                lessen(1);
                lost++;
            }
        }

        /** Answers false, and changes nothing, if a count or what is lost would be too great. */
        boolean putTogether(Counters other) {
            for (int node = 0; node < nodes; node++) {
                long both = (long) counts[node] + other.counts[node];
                if (both > MOST_COUNT) {
                    return false;
                }
                together[node] = (int) both;
            }
            int firstWithoutSlot = nodeAtPlace(together, slots);
            int cut = firstWithoutSlot == NONE ? 0 : together[firstWithoutSlot];
            long lostThen = (long) lost + other.lost + cut;
            if (lostThen > MOST_COUNT) {
                return false;
            }
            System.arraycopy(together, 0, counts, 0, nodes);
            lost = (int) lostThen;
            lessen(cut);
            return true;
        }

        /** The node at a place (from 0) of those with a count, or NONE if there are not so many. */
        int nodeAtPlace(int[] ranked, int place) {
            long passed = 0L;
            int node = NONE;
            for (int i = 0; i <= place; i++) {
                node = greatest(ranked, passed);
                if (node == NONE) {
                    return NONE;
                }
                passed |= 1L << node;
            }
            return node;
        }

        private int greatest(int[] ranked, long passed) {
            int best = NONE;
            int most = 0;
            for (int node = 0; node < nodes; node++) {
                if (ranked[node] > most && !holds(passed, node)) {
                    best = node;
                    most = ranked[node];
                }
            }
            return best;
        }

        private void lessen(int by) {
            taken = 0;
            for (int node = 0; node < nodes; node++) {
                counts[node] = Math.max(0, counts[node] - by);
                if (counts[node] > 0) {
                    taken++;
                }
            }
        }
    }

    /** The arcs of the forest, from the oldest to the latest. */
    private static final class Forest {
        final int[] times = new int[MOST_NODES];
        final int[] keys = new int[MOST_NODES];
        private final int[] leaders = new int[MOST_NODES];
        int size;

        void restart() {
            size = 0;
        }

        void accept(int lesser, int greater, int time) {
            int oldest = oldestBetween(lesser, greater);
            if (oldest != NONE) {
                drop(oldest);
            }
            if (size < MOST_NODES) {
                times[size] = time;
                keys[size] = keyOf(lesser, greater);
                size++;
            }
        }

        int arcsAfter(int time) {
            int arcs = 0;
            for (int i = size - 1; i >= 0 && times[i] > time; i--) {
                arcs++;
            }
            return arcs;
        }

        int leastOfPart(int time, int node) {
            partAll();
            for (int i = size - 1; i >= 0 && times[i] > time; i--) {
                joinByArc(i);
            }
            return leaderOf(node);
        }

        /**
         * The place of the oldest arc on the way between two nodes, or NONE if there is no way.
         * Arcs are joined from the latest on, so the one that first makes the way is its oldest.
         */
        int oldestBetween(int a, int b) {
            partAll();
            for (int i = size - 1; i >= 0; i--) {
                joinByArc(i);
                if (leaderOf(a) == leaderOf(b)) {
                    return i;
                }
            }
            return NONE;
        }

        private void drop(int place) {
            for (int i = place + 1; i < size; i++) {
                times[i - 1] = times[i];
                keys[i - 1] = keys[i];
            }
            size--;
        }

        private void partAll() {
            for (int node = 0; node < MOST_NODES; node++) {
                leaders[node] = node;
            }
        }

        // The lesser leader leads on, so that a part's leader is always its least node.
        private void joinByArc(int i) {
            int one = leaderOf(lesserNode(keys[i]));
            int two = leaderOf(greaterNode(keys[i]));
            leaders[Math.max(one, two)] = Math.min(one, two);
        }

        private int leaderOf(int node) {
            int at = node;
            for (int steps = 0; steps < MOST_NODES && leaders[at] != at; steps++) {
                at = leaders[at];
            }
            return at;
        }
    }

    /** The thinned graph: its arcs as they came, and each node's neighbours as a set. */
    private static final class Thinned {
        final int[] times = new int[MOST_ARCS];
        final int[] keys = new int[MOST_ARCS];
        private final long[] neighbours = new long[MOST_NODES];
        private int nodes;
        private int stretch;
        int size;

        void restart(int newNodes, int newStretch) {
            nodes = newNodes;
            stretch = newStretch;
            size = 0;
            Arrays.fill(neighbours, 0L);
        }

        void accept(int lesser, int greater, int time) {
            if (size >= MOST_ARCS || distance(lesser, greater, stretch) != NONE) {
                return;
            }
            times[size] = time;
            keys[size] = keyOf(lesser, greater);
            size++;
            neighbours[lesser] |= 1L << greater;
            neighbours[greater] |= 1L << lesser;
        }

        /** Of how many arcs the shortest way is, or NONE if there is none of at most so many. */
        int distance(int from, int to, int most) {
            long reached = 1L << from;
            long edge = reached;
            for (int steps = 0; steps <= most && edge != 0L; steps++) {
                if (holds(edge, to)) {
                    return steps;
                }
                edge = neighboursOf(edge) & ~reached;
                reached |= edge;
            }
            return NONE;
        }

        private long neighboursOf(long set) {
            long found = 0L;
            for (int node = 0; node < nodes; node++) {
                if (holds(set, node)) {
                    found |= neighbours[node];
                }
            }
            return found;
        }
    }

    /** Each node's mate, NONE if it has none. */
    private static final class Matching {
        final int[] mates = new int[MOST_NODES];
        int pairs;

        void restart() {
            pairs = 0;
            Arrays.fill(mates, NONE);
        }

        void accept(int lesser, int greater) {
            if (mates[lesser] == NONE && mates[greater] == NONE) {
                mates[lesser] = greater;
                mates[greater] = lesser;
                pairs++;
            }
        }
    }

    /** Three sums for each node at each level. */
    private static final class Rows {
        final long[] sums = new long[MOST_NODES * LEVELS * SUMS];
        private int nodes;
        private long seed;

        void restart(int newNodes, long newSeed) {
            nodes = newNodes;
            seed = newSeed;
            Arrays.fill(sums, 0L);
        }

        static int placeOf(int node, int level) {
            return (node * LEVELS + level) * SUMS;
        }

        /** An arc comes (times is 1) or is taken away (-1); answers its level. */
        int change(int lesser, int greater, int times) {
            long key = keyOf(lesser, greater);
            int top = levelOf(key);
            for (int level = 0; level <= top; level++) {
                addTo(placeOf(lesser, level), key, times);
                addTo(placeOf(greater, level), key, -times);
            }
            return top;
        }

        void putTogether(Rows other) {
            int end = placeOf(nodes, 0);
            for (int i = 0; i < end; i++) {
                sums[i] += other.sums[i];
            }
        }

        boolean isAlike(Rows other) {
            int end = placeOf(nodes, 0);
            for (int i = 0; i < end; i++) {
                if (sums[i] != other.sums[i]) {
                    return false;
                }
            }
            return true;
        }

        /** The key that leads out of a set by its sums at a level, or NONE. */
        int keyOutOf(long set, int level) {
            long sign = sumOf(set, level, 0);
            if (sign != 1L && sign != -1L) {
                return NONE;
            }
            long key = sumOf(set, level, 1) * sign;
            if (key < 0L || key >= keyOf(nodes, 0) || sumOf(set, level, 2) * sign != key * key) {
                return NONE;
            }
            int lesser = lesserNode((int) key);
            int greater = greaterNode((int) key);
            if (lesser >= greater || greater >= nodes) {
                return NONE;
            }
            boolean leads = holds(set, lesser) == (sign == 1L) && holds(set, greater) == (sign == -1L);
            return leads ? (int) key : NONE;
        }

        boolean isNothing(long set) {
            return sumOf(set, 0, 0) == 0L && sumOf(set, 0, 1) == 0L && sumOf(set, 0, 2) == 0L;
        }

        private long sumOf(long set, int level, int which) {
            long total = 0L;
            for (int node = 0; node < nodes; node++) {
                if (holds(set, node)) {
                    total += sums[placeOf(node, level) + which];
                }
            }
            return total;
        }

        private void addTo(int place, long key, int times) {
            sums[place] += times;
            sums[place + 1] += times * key;
            sums[place + 2] += times * key * key;
        }

        private int levelOf(long key) {
            long z = seed + (key + 1L) * 0x9E3779B97F4A7C15L;
            z = (z ^ z >>> 30) * 0xBF58476D1CE4E5B9L;
            z = (z ^ z >>> 27) * 0x94D049BB133111EBL;
            z = z ^ z >>> 31;
            int zeros = 0;
            while (zeros < LEVELS - 1 && !holds(z, zeros)) {
                zeros++;
            }
            return zeros;
        }
    }
}
