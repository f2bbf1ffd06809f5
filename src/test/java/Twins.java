import java.util.ArrayList;
import java.util.List;
import java.util.function.Supplier;
import java.util.function.ToLongFunction;

/**
 * A call that must change nothing: an object that was asked it is compared with a twin that was
 * not, in every answer they can give, first about the diagram, then about what was put in.
 */
final class Twins {
    /** Made by up to 60 calls, asked twice by so many: an object has at most 512 calls in all. */
    private static final int QUESTIONS_AT_ONCE = 200;
    private static final int[][] RANKS = {{-1, 2}, {0, 2}, {-1, 3}, {2, 5}, {5, 7}, {1, 97}, {-1, 97}, {1, 4}};

    private record Question(String name, ToLongFunction<AlexanderMatrix> call) {
    }

    private final Checks checks;
    private final Supplier<AlexanderMatrix> maker;
    private final List<Question> questions = new ArrayList<>();

    Twins(Checks checks, Supplier<AlexanderMatrix> maker) {
        this.checks = checks;
        this.maker = maker;
        AlexanderMatrix x = maker.get();
        int crossings = (int) x.many(0);
        int arcs = (int) x.many(2);
        x.check(0);
        gather(Math.max(crossings, (int) x.many(0)), Math.max(arcs, (int) x.many(2)));
    }

    /** Without anything; with crossings put in that are a diagram; with some that are none. */
    static List<Twins> inSmallStates(Checks checks) {
        return List.of(
                new Twins(checks, AlexanderMatrix::new),
                new Twins(checks, () -> Diagrams.ofAndPutIn(Diagrams.TREFOIL, 2, Diagrams.KINK)),
                new Twins(checks, () -> Diagrams.ofAndPutIn(Diagrams.TREFOIL, 0, Diagrams.NO_SPHERE)));
    }

    /** With 12 crossings and 12 more put in; with as many arcs and circles as there can be. */
    static List<Twins> inFullStates(Checks checks) {
        int[][] torus = Diagrams.braid(2, Diagrams.power(12, 1));
        int[][] knot = Diagrams.braid(3, Diagrams.power(6, 1, -2));
        return List.of(
                new Twins(checks, () -> Diagrams.ofAndPutIn(torus, 0, knot)),
                new Twins(checks, () -> Diagrams.ofAndPutIn(Diagrams.mostArcs(), 9, Diagrams.TREFOIL)));
    }

    private void ask(String name, ToLongFunction<AlexanderMatrix> call) {
        questions.add(new Question(name, call));
    }

    private void gather(int crossings, int arcs) {
        for (int i = 0; i <= 7; i++) {
            int what = i;
            ask("many(" + what + ")", x -> x.many(what));
        }
        for (int i = 0; i <= 60; i++) {
            int label = i < 60 ? i : 9999;
            ask("arc(" + label + ")", x -> x.arc(label));
        }
        for (int i = -1; i <= arcs; i++) {
            int arc = i;
            ask("least(" + arc + ")", x -> x.least(arc));
            for (int j = -1; j <= crossings; j++) {
                int k = j;
                ask("entry(" + k + ", " + arc + ", 0)", x -> x.entry(k, arc, 0));
                ask("entry(" + k + ", " + arc + ", 1)", x -> x.entry(k, arc, 1));
                for (int h = 0; h <= crossings; h++) {
                    int e = h;
                    ask("minor(" + k + ", " + arc + ", " + e + ")", x -> x.minor(k, arc, e));
                }
            }
        }
        for (int i = 0; i <= crossings; i++) {
            int e = i;
            ask("alexander(" + e + ")", x -> x.alexander(e));
        }
        for (int[] r : RANKS) {
            ask("rank(" + r[0] + ", " + r[1] + ")", x -> x.rank(r[0], r[1]));
        }
    }

    /** One object has answered before, the other one has not: neither may remember what is no more. */
    void changesNothing(String name, ToLongFunction<AlexanderMatrix> call, long answer) {
        for (int from = 0; from < questions.size(); from += QUESTIONS_AT_ONCE) {
            List<Question> some = questions.subList(from, Math.min(from + QUESTIONS_AT_ONCE, questions.size()));
            compare(name, call, answer, some, false);
            compare(name, call, answer, some, true);
        }
    }

    private void compare(String name, ToLongFunction<AlexanderMatrix> call, long answer, List<Question> some,
            boolean answeredBefore) {
        AlexanderMatrix plain = maker.get();
        AlexanderMatrix tried = maker.get();
        if (answeredBefore) {
            tried.many(3);
            tried.minor(0, 0, 0);
        }
        checks.due(name, call.applyAsLong(tried), answer);
        for (Question q : some) {
            checks.due(q.name + " after " + name, q.call.applyAsLong(tried), q.call.applyAsLong(plain));
        }
        checks.due("check(0) after " + name, tried.check(0), plain.check(0));
        for (Question q : some) {
            checks.due(q.name + " after " + name + " and check(0)",
                    q.call.applyAsLong(tried), q.call.applyAsLong(plain));
        }
    }

    void changesNothing(String name, ToLongFunction<AlexanderMatrix> call) {
        changesNothing(name, call, call.applyAsLong(maker.get()));
    }
}
