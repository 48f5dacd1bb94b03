import java.io.IOException;
import java.lang.reflect.Constructor;
import java.lang.reflect.Method;
import java.nio.file.Files;
import java.nio.file.Path;
import java.util.Arrays;
import java.util.Comparator;

/**
 * Tests that each hold the class to some words of the document: a method with Says is one test, and
 * is played on an object of its own.
 */
abstract class Scene {
    static final int BAD = -1, NONE = -2, APART = -3, NOTHING = -4, UNSURE = -5, FULL = -6;
    static final int BILLION = 1000000000;
    static final int LEAST = Integer.MIN_VALUE, MOST = Integer.MAX_VALUE;
    static final int[] WRONG_STREAMS = {-1, 3, LEAST, MOST};
    private static final Path DOCUMENT = Path.of("../shared/DOC.md");

    Counted x = new Counted();
    private Check check;
    private String test;

    static void play(Class<? extends Scene> type) throws ReflectiveOperationException, IOException {
        Check check = new Check();
        // Without the document beside the project the words can't be looked up, but still be held to.
        String document = Files.exists(DOCUMENT) ? plain(Files.readString(DOCUMENT)) : null;
        Constructor<? extends Scene> constructor = type.getDeclaredConstructor();
        constructor.setAccessible(true);
        Method[] methods = type.getDeclaredMethods();
        Arrays.sort(methods, Comparator.comparing(Method::getName));
        for (Method method : methods) {
            Says says = method.getAnnotation(Says.class);
            if (says == null) {
                continue;
            }
            Scene scene = constructor.newInstance();
            scene.check = check;
            scene.test = method.getName() + " (" + says.value() + ")";
            check.isTrue("the document says: " + says.value(),
                document == null || document.contains(plain(says.value())));
            method.setAccessible(true);
            method.invoke(scene);
            scene.keepsToTheLimit();
        }
        check.end();
    }

    private static String plain(String text) {
        return text.replaceAll("\\s+", " ");
    }

    private void keepsToTheLimit() {
        check.isTrue(test + ": the test makes at most 512 calls", x.calls <= Counted.MOST_CALLS);
    }

    void due(String call, long got, long want) {
        check.due(test + ": " + call, got, want);
    }

    /** Goes on with a new object. */
    void renew() {
        keepsToTheLimit();
        x = new Counted();
    }

    void adds(int stream, int... nodes) {
        for (int i = 0; i + 1 < nodes.length; i += 2) {
            x.add(stream, nodes[i], nodes[i + 1]);
        }
    }

    void takes(int stream, int... nodes) {
        for (int i = 0; i + 1 < nodes.length; i += 2) {
            x.take(stream, nodes[i], nodes[i + 1]);
        }
    }

    /** What told() is due to answer, from what = 0 on. */
    void tells(int stream, int... want) {
        for (int what = 0; what < want.length; what++) {
            due("told " + stream + " " + what, x.told(stream, what), want[what]);
        }
    }

    /** The nodes of the slots that are taken and their counts, in turn, and no slot more. */
    void slots(int stream, int... want) {
        due("slots taken", x.told(stream, 1), want.length / 2);
        for (int i = 0; i + 1 < want.length; i += 2) {
            due("node of slot " + i / 2, x.slot(stream, i / 2, 0), want[i]);
            due("count of slot " + i / 2, x.slot(stream, i / 2, 1), want[i + 1]);
        }
        due("no slot more", x.slot(stream, want.length / 2, 0), BAD);
    }

    /** Lets stream 0 have an arc so often, by doubling over stream 2. */
    void grow(int nodes, int slots, int a, int b, int often) {
        x.begin(0, nodes, slots, 1, 5L);
        boolean any = false;
        for (int bit = 30; bit >= 0; bit--) {
            if (any) {
                x.begin(2, nodes, slots, 1, 5L);
                x.merge(2, 0);
                x.merge(0, 2);
            }
            if ((often >> bit & 1) == 1) {
                x.add(0, a, b);
                any = true;
            }
        }
    }

    /** Doubles the rows of stream 0 so often over stream 2; both begin with the same form. */
    void doubleRows(int often, int nodes, long seed) {
        for (int i = 0; i < often; i++) {
            x.begin(2, nodes, 1, 1, seed);
            x.merge(2, 0);
            x.merge(0, 2);
        }
    }

    /** A ring of arcs over the nodes 0 .. length - 1, the closing arc last. */
    void ring(int stream, int length) {
        for (int node = 0; node < length; node++) {
            x.add(stream, node, (node + 1) % length);
        }
    }

    /** A way of so many arcs from node 0 on. */
    void way(int stream, int arcs) {
        for (int node = 0; node < arcs; node++) {
            x.add(stream, node, node + 1);
        }
    }
}
