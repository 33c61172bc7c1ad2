/** Promises 6 to 8: node, cost, tie. */
public final class GraphTest {
    private static final Due DUE = new Due("GraphTest");
    private static final int NEVER = CostChoices.NEVER, BAD = CostChoices.BAD, NONE = CostChoices.NONE;

    public static void main(String[] args) {
        nodes();
        kindsOfCosts();
        pinnedCosts();
        ties();
        DUE.end();
    }

    private static void nodes() {
        CostChoices x = new CostChoices();
        DUE.is("node(0, -1)", x.node(0, -1), BAD);
        DUE.is("node(0, 4)", x.node(0, 4), BAD);
        DUE.is("node(5, 0)", x.node(5, 0), BAD);
        DUE.is("node(-1, 0)", x.node(-1, 0), BAD);
        DUE.is("node(max, 3)", x.node(Integer.MAX_VALUE, 3), BAD);
        DUE.is("node(min, 3)", x.node(Integer.MIN_VALUE, 3), BAD);
        DUE.is("pin", x.pin(4, 2), NONE);
        DUE.is("node(4, 3)", x.node(4, 3), 2);
        DUE.is("rename", x.rename(4, 1), 3);
        DUE.is("node(4, 0)", x.node(4, 0), 1);
        DUE.is("loose", x.loose(4, 3), 4);
        DUE.is("node(4, 2)", x.node(4, 2), 0);
        DUE.is("node(3, 2)", x.node(3, 2), 1);
    }

    private static void kindsOfCosts() {
        CostChoices x = Due.laid("n0,98,99,0,20;n1,98,99,0,20;n2,98,99,0,20;n3,10,11,99,0;");
        DUE.row("PLAIN", i -> x.cost(0, i), 98, NEVER, 0, 20, BAD);
        DUE.row("HEAVY", i -> x.cost(1, i), 196, NEVER, 0, 40, BAD);
        DUE.row("TIMID", i -> x.cost(2, i), 98, NEVER, 2, 23, BAD);
        DUE.row("STERN", i -> x.cost(3, i), 20, NEVER, NEVER, 0, BAD);
        DUE.is("cost(0, -1)", x.cost(0, -1), BAD);
        DUE.is("cost(-1, 0)", x.cost(-1, 0), BAD);
        DUE.is("cost(4, 0)", x.cost(4, 0), BAD);
        DUE.is("cost(max, max)", x.cost(Integer.MAX_VALUE, Integer.MAX_VALUE), BAD);
    }

    private static void pinnedCosts() {
        CostChoices x = Due.laid("n1,3,4,5;n3,30,1;");
        x.pin(0, 1);
        DUE.row("pinned HEAVY", i -> x.cost(0, i), NEVER, 8, NEVER, BAD);
        x.pin(1, 0);
        DUE.row("pinned to what can not be", i -> x.cost(1, i), NEVER, NEVER);
        x.pin(0, 2);
        DUE.row("pinned elsewhere", i -> x.cost(0, i), NEVER, NEVER, 10);
        x.pin(0, -1);
        DUE.row("unpinned", i -> x.cost(0, i), 6, 8, 10);
    }

    private static void ties() {
        CostChoices x = new CostChoices();
        DUE.is("tie(0, 1, 0, 1)", x.tie(0, 1, 0, 1), 1);
        DUE.is("tie(1, 0, 1, 0)", x.tie(1, 0, 1, 0), 1);
        DUE.is("tie(1, 0, 0, 1)", x.tie(1, 0, 0, 1), NEVER);
        DUE.is("tie(1, 0, 0, 2)", x.tie(1, 0, 0, 2), 0);
        DUE.is("not tied", x.tie(1, 4, 0, 0), NONE);
        DUE.is("alike", x.tie(1, 1, 0, 0), BAD);
        DUE.is("no node", x.tie(0, 5, 0, 0), BAD);
        DUE.is("no node", x.tie(-1, 0, 0, 0), BAD);
        DUE.is("no choice", x.tie(0, 1, 3, 0), BAD);
        DUE.is("no choice", x.tie(0, 1, 0, 2), BAD);
        DUE.is("no choice", x.tie(0, 1, -1, 0), BAD);
        DUE.is("no choice, not tied", x.tie(1, 4, 2, 0), BAD);
        DUE.is("no choice, not tied", x.tie(1, 4, 0, 3), BAD);
        x.pin(0, 0);
        DUE.is("a pin leaves the tie", x.tie(0, 1, 2, 0), 0);
    }
}
