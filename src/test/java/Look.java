import java.util.ArrayList;
import java.util.List;

/** All that can be asked of an object, as one list: two objects that stand alike have the same. */
final class Look {
    private Look() {
    }

    /** The graph as it is told; at most 225 calls on the graphs of the tests. */
    static List<Integer> atGraph(CostChoices x) {
        List<Integer> seen = new ArrayList<>();
        for (int what = 0; what < 6; what++) {
            seen.add(x.count(what));
        }
        seen.add(x.fault());
        int nodes = x.count(0);
        for (int u = 0; u < nodes; u++) {
            for (int what = 0; what < 4; what++) {
                seen.add(x.node(u, what));
            }
            for (int i = 0; i < x.node(u, 1); i++) {
                seen.add(x.cost(u, i));
            }
            for (int v = u + 1; v < nodes; v++) {
                atTie(x, u, v, seen);
            }
        }
        return seen;
    }

    private static void atTie(CostChoices x, int u, int v, List<Integer> seen) {
        if (x.tie(u, v, 0, 0) == CostChoices.NONE) {
            seen.add(CostChoices.NONE);
            return;
        }
        int rows = x.node(u, 1);
        int columns = x.node(v, 1);
        for (int k = 0; k < rows * columns; k++) {
            seen.add(x.tie(u, v, k / columns, k % columns));
        }
    }

    /** What comes of the graph. */
    static List<Integer> atAnswers(CostChoices x) {
        List<Integer> seen = new ArrayList<>();
        int nodes = x.count(0);
        for (int u = 0; u < nodes; u++) {
            seen.add(x.turn(u, 0));
            seen.add(x.turn(u, 1));
            seen.add(x.reduced(u));
            seen.add(x.first(u));
            seen.add(x.with(u, 0));
            for (int v = u + 1; v < nodes; v++) {
                seen.add(x.without(u, v));
            }
        }
        seen.add(x.plan(0));
        seen.add(x.plan(1));
        for (int what = 0; what < 5; what++) {
            seen.add(x.least(what));
        }
        return seen;
    }
}
