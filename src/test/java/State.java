import java.util.ArrayList;
import java.util.LinkedHashMap;
import java.util.List;
import java.util.Map;
import java.util.function.Consumer;
import java.util.function.ToLongFunction;

/**
 * All that can be asked after a run of calls. A question's text begins with its stream and the part
 * of it that it asks for. Questions go on on a new object, after the same run, when one has had its
 * 512 calls.
 */
final class State {
    private record Question(String text, ToLongFunction<Counted> ask) {
    }

    private final List<Question> questions = new ArrayList<>();
    private final Consumer<Counted> run;

    private State(Consumer<Counted> run) {
        this.run = run;
    }

    static Map<String, Long> after(Consumer<Counted> run) {
        State state = new State(run);
        state.questions.add(new Question("level", Counted::level));
        for (int s = 0; s < 3; s++) {
            int nodes = state.objectAfterRun().told(s, 6);
            int age = state.objectAfterRun().told(s, 0);
            state.form(s);
            state.counters(s, nodes);
            state.arcs(s, nodes, age);
            state.rows(s, nodes);
        }
        return state.answers();
    }

    private Counted objectAfterRun() {
        Counted x = new Counted();
        run.accept(x);
        return x;
    }

    private Map<String, Long> answers() {
        Map<String, Long> answers = new LinkedHashMap<>();
        Counted x = objectAfterRun();
        for (Question question : questions) {
            if (x.calls >= Counted.MOST_CALLS) {
                x = objectAfterRun();
            }
            answers.put(question.text, question.ask.applyAsLong(x));
        }
        return answers;
    }

    private void ask(int s, String part, String call, ToLongFunction<Counted> ask) {
        questions.add(new Question(s + " " + part + ": " + call, ask));
    }

    private void form(int s) {
        for (int what : new int[] {0, 6, 7, 8}) {
            ask(s, "form", "told " + what, x -> x.told(s, what));
        }
    }

    private void counters(int s, int nodes) {
        ask(s, "counters", "taken", x -> x.told(s, 1));
        ask(s, "counters", "lost", x -> x.told(s, 2));
        for (int i = 0; i < nodes; i++) {
            int node = i;
            for (int which = 0; which < 2; which++) {
                int end = which;
                ask(s, "counters", "span " + node + " " + end, x -> x.span(s, node, end));
                ask(s, "counters", "slot " + node + " " + end, x -> x.slot(s, node, end));
            }
        }
    }

    /** The forest, the thinned graph and the matching. */
    private void arcs(int s, int nodes, int age) {
        for (int which = 3; which <= 5; which++) {
            int what = which;
            ask(s, "arcs", "told " + what, x -> x.told(s, what));
        }
        for (int place = 0; place <= age; place++) {
            int i = place;
            ask(s, "arcs", "parts " + i, x -> x.parts(s, i));
            for (int which = 0; which < 3; which++) {
                int what = which;
                ask(s, "arcs", "tree " + i + " " + what, x -> x.tree(s, i, what));
                ask(s, "arcs", "kept " + i + " " + what, x -> x.kept(s, i, what));
            }
        }
        for (int i = 0; i < nodes * nodes; i++) {
            int a = i / nodes, b = i % nodes;
            ask(s, "arcs", "since " + a + " " + b, x -> x.since(s, a, b));
            ask(s, "arcs", "far " + a + " " + b, x -> x.far(s, a, b));
            ask(s, "arcs", "part " + a + " " + b, x -> x.part(s, a, b));
            ask(s, "arcs", "mate " + b, x -> x.mate(s, b));
        }
    }

    /** The rows, and the seed by the levels that take() answers: it comes last, as it changes them. */
    private void rows(int s, int nodes) {
        for (int i = 0; i < nodes * 30; i++) {
            int node = i / 30, level = i / 3 % 10, which = i % 3;
            ask(s, "rows", "sum " + node + " " + level + " " + which, x -> x.sum(s, node, level, which));
        }
        for (int i = 0; i < nodes; i++) {
            long set = 3L << i;
            ask(s, "rows", "out " + set, x -> x.out(s, set));
        }
        for (int i = 1; i < nodes; i++) {
            int node = i;
            ask(s, "form", "level of arc 0 " + node, x -> x.take(s, 0, node));
        }
    }
}
