/** A StreamCounts that counts its calls, as the document promises nothing after the 512th. */
final class Counted {
    static final int MOST_CALLS = 512;

    private final StreamCounts x = new StreamCounts();
    int calls;

    int begin(int stream, int nodes, int slots, int stretch, long seed) {
        calls++;
        return x.begin(stream, nodes, slots, stretch, seed);
    }

    int add(int stream, int a, int b) {
        calls++;
        return x.add(stream, a, b);
    }

    int take(int stream, int a, int b) {
        calls++;
        return x.take(stream, a, b);
    }

    int merge(int stream, int other) {
        calls++;
        return x.merge(stream, other);
    }

    int told(int stream, int what) {
        calls++;
        return x.told(stream, what);
    }

    int span(int stream, int node, int end) {
        calls++;
        return x.span(stream, node, end);
    }

    int slot(int stream, int i, int what) {
        calls++;
        return x.slot(stream, i, what);
    }

    int parts(int stream, int n) {
        calls++;
        return x.parts(stream, n);
    }

    int part(int stream, int n, int node) {
        calls++;
        return x.part(stream, n, node);
    }

    int tree(int stream, int i, int what) {
        calls++;
        return x.tree(stream, i, what);
    }

    int since(int stream, int a, int b) {
        calls++;
        return x.since(stream, a, b);
    }

    int far(int stream, int a, int b) {
        calls++;
        return x.far(stream, a, b);
    }

    int kept(int stream, int i, int what) {
        calls++;
        return x.kept(stream, i, what);
    }

    int mate(int stream, int node) {
        calls++;
        return x.mate(stream, node);
    }

    long sum(int stream, int node, int level, int which) {
        calls++;
        return x.sum(stream, node, level, which);
    }

    int out(int stream, long set) {
        calls++;
        return x.out(stream, set);
    }

    int level() {
        calls++;
        return x.level();
    }

    int same(int stream, int other) {
        calls++;
        return x.same(stream, other);
    }
}
