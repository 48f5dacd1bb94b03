import java.math.BigInteger;
import java.util.ArrayList;
import java.util.Arrays;
import java.util.List;
import java.util.Map;
import java.util.TreeMap;

/**
 * StreamCounts told once more from the document's words, in the slowest way: every arc is kept, and
 * answers are found by trying. It shares nothing with the class but the answers' numbers.
 */
final class Model {
    static final int BAD = -1, NONE = -2, APART = -3, NOTHING = -4, UNSURE = -5, FULL = -6;
    private static final BigInteger RANGE = BigInteger.ONE.shiftLeft(64);

    static final class Arc {
        final int time, a, b;

        Arc(int time, int a, int b) {
            this.time = time;
            this.a = Math.min(a, b);
            this.b = Math.max(a, b);
        }
    }

    static final class Stream {
        int nodes = 2, slots = 1, stretch = 1;
        long seed = 0;
        final List<Arc> came = new ArrayList<>();
        final TreeMap<Integer, Long> counts = new TreeMap<>();
        long lost = 0;
        final List<Arc> forest = new ArrayList<>();
        final List<Arc> thinned = new ArrayList<>();
        final TreeMap<Integer, Integer> mates = new TreeMap<>();
        /** How often each key's arc is in the rows. */
        final TreeMap<Integer, Long> times = new TreeMap<>();
        /** Levels found once are kept, as finding them is slow. */
        final TreeMap<Integer, Integer> levels = new TreeMap<>();
        /** How many arcs of this stream and of those put together with it have each node. */
        BigInteger[] degrees = zeros();

        private static BigInteger[] zeros() {
            BigInteger[] all = new BigInteger[64];
            Arrays.fill(all, BigInteger.ZERO);
            return all;
        }
    }

    final Stream[] streams = {new Stream(), new Stream(), new Stream()};
    private int level = NONE;

    private boolean stream(int s) {
        return s >= 0 && s <= 2;
    }

    private boolean node(int s, int n) {
        return stream(s) && n >= 0 && n <= streams[s].nodes - 1;
    }

    int begin(int s, int nodes, int slots, int stretch, long seed) {
        boolean good = stream(s) && 2 <= nodes && nodes <= 64 && 1 <= slots && slots <= 16
            && List.of(1, 3, 5, 7).contains(stretch);
        if (!good) {
            return BAD;
        }
        int age = streams[s].came.size();
        Stream fresh = new Stream();
        fresh.nodes = nodes;
        fresh.slots = slots;
        fresh.stretch = stretch;
        fresh.seed = seed;
        streams[s] = fresh;
        return age;
    }

    int add(int s, int a, int b) {
        if (!node(s, a) || !node(s, b) || a == b) {
            return BAD;
        }
        Stream x = streams[s];
        Arc arc = new Arc(x.came.size() + 1, a, b);
        x.came.add(arc);
        count(x, a);
        count(x, b);
        List<Arc> way = way(x.forest, a, b, new ArrayList<>());
        if (way != null) {
            Arc least = way.get(0);
            for (Arc w : way) {
                if (w.time < least.time) {
                    least = w;
                }
            }
            x.forest.remove(least);
        }
        x.forest.add(arc);
        int length = shortest(x, a, b);
        if (length == NONE || length > x.stretch) {
            x.thinned.add(arc);
        }
        if (!x.mates.containsKey(a) && !x.mates.containsKey(b)) {
            x.mates.put(a, b);
            x.mates.put(b, a);
        }
        x.times.merge(64 * arc.a + arc.b, 1L, Long::sum);
        x.degrees[a] = x.degrees[a].add(BigInteger.ONE);
        x.degrees[b] = x.degrees[b].add(BigInteger.ONE);
        return arc.time;
    }

    private void count(Stream x, int node) {
        if (x.counts.containsKey(node)) {
            x.counts.merge(node, 1L, Long::sum);
        } else if (x.counts.size() < x.slots) {
            x.counts.put(node, 1L);
        } else {
            x.counts.replaceAll((n, c) -> c - 1);
            x.counts.values().removeIf(c -> c == 0);
            x.lost++;
        }
    }

    /** The arcs of a way that uses no arc twice, found by going everywhere; null: none. */
    private List<Arc> way(List<Arc> arcs, int from, int to, List<Arc> gone) {
        if (from == to) {
            return gone;
        }
        for (Arc arc : arcs) {
            if ((arc.a == from || arc.b == from) && !gone.contains(arc)) {
                List<Arc> further = new ArrayList<>(gone);
                further.add(arc);
                List<Arc> found = way(arcs, arc.a == from ? arc.b : arc.a, to, further);
                if (found != null) {
                    return found;
                }
            }
        }
        return null;
    }

    private int shortest(Stream x, int a, int b) {
        int[] far = new int[x.nodes];
        Arrays.fill(far, 1000);
        far[a] = 0;
        for (int round = 0; round < x.nodes; round++) {
            for (Arc arc : x.thinned) {
                far[arc.a] = Math.min(far[arc.a], far[arc.b] + 1);
                far[arc.b] = Math.min(far[arc.b], far[arc.a] + 1);
            }
        }
        return far[b] >= 1000 ? NONE : far[b];
    }

    int take(int s, int a, int b) {
        if (!node(s, a) || !node(s, b) || a == b) {
            return BAD;
        }
        int key = 64 * Math.min(a, b) + Math.max(a, b);
        streams[s].times.merge(key, -1L, Long::sum);
        return levelOf(streams[s], key);
    }

    private static int levelOf(Stream x, int key) {
        return x.levels.computeIfAbsent(key, k -> levelOf(x.seed, k));
    }

    /** The level, by whole numbers that are cut to 64 bits after each step. */
    static int levelOf(long seed, int key) {
        BigInteger z = BigInteger.valueOf(seed)
            .add(BigInteger.valueOf(key + 1).multiply(new BigInteger("9E3779B97F4A7C15", 16))).mod(RANGE);
        z = z.xor(z.shiftRight(30)).multiply(new BigInteger("BF58476D1CE4E5B9", 16)).mod(RANGE);
        z = z.xor(z.shiftRight(27)).multiply(new BigInteger("94D049BB133111EB", 16)).mod(RANGE);
        z = z.xor(z.shiftRight(31));
        return z.signum() == 0 ? 9 : Math.min(9, z.getLowestSetBit());
    }

    private boolean apart(Stream x, Stream y) {
        return x.nodes != y.nodes || x.slots != y.slots || x.stretch != y.stretch || x.seed != y.seed;
    }

    int merge(int s, int o) {
        if (!stream(s) || !stream(o) || s == o) {
            return BAD;
        }
        Stream x = streams[s], y = streams[o];
        if (apart(x, y)) {
            return APART;
        }
        TreeMap<Integer, Long> both = new TreeMap<>(x.counts);
        y.counts.forEach((n, c) -> both.merge(n, c, Long::sum));
        List<Long> sorted = new ArrayList<>(both.values());
        sorted.sort((p, q) -> Long.compare(q, p));
        long c = sorted.size() > x.slots ? sorted.get(x.slots) : 0;
        if (sorted.stream().anyMatch(v -> v > 1000000000L) || x.lost + y.lost + c > 1000000000L) {
            return FULL;
        }
        x.counts.clear();
        both.forEach((n, v) -> {
            if (v - c > 0) {
                x.counts.put(n, v - c);
            }
        });
        x.lost += y.lost + c;
        y.times.forEach((k, t) -> x.times.merge(k, t, Long::sum));
        for (int n = 0; n < x.nodes; n++) {
            x.degrees[n] = x.degrees[n].add(y.degrees[n]);
        }
        return x.counts.size();
    }

    int told(int s, int what) {
        if (!stream(s) || what < 0 || what > 8) {
            return BAD;
        }
        Stream x = streams[s];
        long[] all = {x.came.size(), x.counts.size(), x.lost, x.forest.size(), x.thinned.size(),
            x.mates.size() / 2, x.nodes, x.slots, x.stretch};
        return (int) all[what];
    }

    int span(int s, int n, int end) {
        if (!node(s, n) || (end != 0 && end != 1)) {
            return BAD;
        }
        return (int) (streams[s].counts.getOrDefault(n, 0L) + end * streams[s].lost);
    }

    int slot(int s, int i, int what) {
        if (!stream(s) || i < 0 || i >= streams[s].counts.size() || (what != 0 && what != 1)) {
            return BAD;
        }
        List<Map.Entry<Integer, Long>> all = new ArrayList<>(streams[s].counts.entrySet());
        all.sort((p, q) -> p.getValue().equals(q.getValue())
            ? p.getKey() - q.getKey() : Long.compare(q.getValue(), p.getValue()));
        return what == 0 ? all.get(i).getKey() : (int) (long) all.get(i).getValue();
    }

    /** Each node's least node, by the last n of all the arcs that came, not by the forest. */
    private int[] least(Stream x, int n) {
        int[] least = new int[x.nodes];
        Arrays.setAll(least, i -> i);
        List<Arc> last = x.came.subList(Math.max(0, x.came.size() - n), x.came.size());
        boolean moved = true;
        while (moved) {
            moved = false;
            for (Arc arc : last) {
                int to = Math.min(least[arc.a], least[arc.b]);
                moved |= least[arc.a] != to || least[arc.b] != to;
                least[arc.a] = to;
                least[arc.b] = to;
            }
        }
        return least;
    }

    int parts(int s, int n) {
        if (!stream(s) || n < 0) {
            return BAD;
        }
        return (int) Arrays.stream(least(streams[s], n)).distinct().count();
    }

    int part(int s, int n, int v) {
        if (!node(s, v) || n < 0) {
            return BAD;
        }
        return least(streams[s], n)[v];
    }

    int tree(int s, int i, int what) {
        if (!stream(s) || i < 0 || i >= streams[s].forest.size() || what < 0 || what > 2) {
            return BAD;
        }
        List<Arc> sorted = new ArrayList<>(streams[s].forest);
        sorted.sort((p, q) -> p.time - q.time);
        Arc arc = sorted.get(i);
        return new int[] {arc.time, arc.a, arc.b}[what];
    }

    int since(int s, int a, int b) {
        if (!node(s, a) || !node(s, b)) {
            return BAD;
        }
        for (int n = 0; n <= streams[s].came.size(); n++) {
            int[] least = least(streams[s], n);
            if (least[a] == least[b]) {
                return n;
            }
        }
        return NONE;
    }

    int far(int s, int a, int b) {
        return node(s, a) && node(s, b) ? shortest(streams[s], a, b) : BAD;
    }

    int kept(int s, int i, int what) {
        if (!stream(s) || i < 0 || i >= streams[s].thinned.size() || what < 0 || what > 2) {
            return BAD;
        }
        Arc arc = streams[s].thinned.get(i);
        return new int[] {arc.a, arc.b, arc.time}[what];
    }

    int mate(int s, int n) {
        return node(s, n) ? streams[s].mates.getOrDefault(n, NONE) : BAD;
    }

    long sum(int s, int n, int level, int which) {
        if (!node(s, n) || level < 0 || level > 9 || which < 0 || which > 2) {
            return 0;
        }
        Stream x = streams[s];
        BigInteger total = BigInteger.ZERO;
        for (Map.Entry<Integer, Long> e : x.times.entrySet()) {
            int key = e.getKey(), a = key >> 6, b = key & 63;
            if ((a == n || b == n) && levelOf(x, key) >= level) {
                BigInteger one = BigInteger.valueOf(key).pow(which).multiply(BigInteger.valueOf(e.getValue()));
                total = a == n ? total.add(one) : total.subtract(one);
            }
        }
        return total.longValue();
    }

    int out(int s, long set) {
        if (!stream(s)) {
            return BAD;
        }
        Stream x = streams[s];
        level = NONE;
        for (int l = 9; l >= 0; l--) {
            long[] sums = sums(s, set, l);
            for (int a = 0; a < x.nodes; a++) {
                for (int b = a + 1; b < x.nodes; b++) {
                    long k = 64 * a + b;
                    boolean hasA = (set >> a & 1) != 0, hasB = (set >> b & 1) != 0;
                    boolean up = Arrays.equals(sums, new long[] {1, k, k * k}) && hasA && !hasB;
                    boolean down = Arrays.equals(sums, new long[] {-1, -k, -k * k}) && hasB && !hasA;
                    if (up || down) {
                        level = l;
                        return (int) k;
                    }
                }
            }
        }
        return Arrays.equals(sums(s, set, 0), new long[3]) ? NOTHING : UNSURE;
    }

    private long[] sums(int s, long set, int l) {
        long[] all = new long[3];
        for (int n = 0; n < streams[s].nodes; n++) {
            for (int which = 0; which < 3 && (set >> n & 1) != 0; which++) {
                all[which] += sum(s, n, l, which);
            }
        }
        return all;
    }

    int level() {
        return level;
    }

    int same(int s, int o) {
        if (!stream(s) || !stream(o)) {
            return BAD;
        }
        if (apart(streams[s], streams[o])) {
            return APART;
        }
        for (int n = 0; n < streams[s].nodes; n++) {
            for (int l = 0; l < 10; l++) {
                for (int which = 0; which < 3; which++) {
                    if (sum(s, n, l, which) != sum(o, n, l, which)) {
                        return 0;
                    }
                }
            }
        }
        return 1;
    }
}
