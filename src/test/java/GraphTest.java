/** Promises 6 to 8: node, cost, tie; and what choices and ties cost. */
public final class GraphTest {
    private static final Due DUE = new Due("GraphTest");
    private static final int NEVER = CostChoices.NEVER, BAD = CostChoices.BAD, NONE = CostChoices.NONE;
    private static final int[] NO_WHAT = {-1, 4, 5, 256, 65536, Integer.MAX_VALUE, Integer.MIN_VALUE};

    public static void main(String[] args) {
        nodes();
        nodesAtTheLimits();
        pinnedNodes();
        badNodes();
        costs();
        costsAtTheLimits();
        plainCosts();
        heavyCosts();
        timidCosts();
        sternCosts();
        pinnedCosts();
        tieCosts();
        ties();
        tiesOfOne();
        badTies();
        DUE.end();
    }

    private static void nodes() {
        DUE.sentence("Of a NODE: KIND (what = 0), how many CHOICES (1), to how many it is TIED (2),");
        CostChoices x = new CostChoices();
        DUE.row("node 4", what -> x.node(4, what), 3, 3, 1, NONE, BAD);
        DUE.is("rename", x.rename(4, 1), 3);
        DUE.is("node(4, 0)", x.node(4, 0), 1);
        DUE.is("loose", x.loose(4, 3), 4);
        DUE.is("node(4, 2)", x.node(4, 2), 0);
        DUE.is("node(3, 2)", x.node(3, 2), 1);
        x.table(0, 4, 0, 0, 0);
        DUE.is("tied by noughts", x.node(4, 2), 1);
        DUE.is("tied by noughts", x.node(0, 2), 3);
    }

    private static void nodesAtTheLimits() {
        CostChoices x = Due.laid(Texts.EIGHT_NODES + Texts.TWELVE_TIES);
        DUE.row("ties", u -> x.node(u, 2), 7, 6, 2, 2, 2, 2, 2, 1, BAD);
        CostChoices y = Due.laid("n0,1;n3,1,2,3,4;");
        DUE.row("kinds", u -> y.node(u, 0), 0, 3, BAD);
        DUE.row("choices", u -> y.node(u, 1), 1, 4, BAD);
        DUE.row("ties", u -> y.node(u, 2), 0, 0, BAD);
    }

    private static void pinnedNodes() {
        DUE.sentence("to which CHOICE it is PINNED (3; NONE). BAD.");
        CostChoices x = Due.laid("n0,1,2,3,4;");
        DUE.is("not yet", x.node(0, 3), NONE);
        x.pin(0, 0);
        DUE.is("to the lowest", x.node(0, 3), 0);
        x.pin(0, 3);
        DUE.is("to the highest", x.node(0, 3), 3);
        x.pin(0, -1);
        DUE.is("no more", x.node(0, 3), NONE);
    }

    private static void badNodes() {
        CostChoices x = new CostChoices();
        for (int u = 0; u < 5; u++) {
            int node = u;
            DUE.each("node(" + u + ", what)", what -> x.node(node, what), BAD, NO_WHAT);
        }
        DUE.is("both wrong", x.node(5, 4), BAD);
        Due.writeOn(x, "n0,1;");
        x.lay();
        DUE.row("of fewer nodes", u -> x.node(u, 1), 1, BAD, BAD, BAD, BAD);
    }

    private static void costs() {
        DUE.sentence("What a CHOICE of a NODE costs. BAD.");
        CostChoices x = Due.laid("n0,98,99,0,20;n1,98,99,0,20;n2,98,99,0,20;n3,10,11,99,0;");
        DUE.row("PLAIN", i -> x.cost(0, i), 98, NEVER, 0, 20, BAD);
        DUE.row("HEAVY", i -> x.cost(1, i), 196, NEVER, 0, 40, BAD);
        DUE.row("TIMID", i -> x.cost(2, i), 98, NEVER, 2, 23, BAD);
        DUE.row("STERN", i -> x.cost(3, i), 20, NEVER, NEVER, 0, BAD);
        DUE.is("cost(0, -1)", x.cost(0, -1), BAD);
        DUE.is("cost(-1, 0)", x.cost(-1, 0), BAD);
        DUE.is("cost(4, 0)", x.cost(4, 0), BAD);
    }

    private static void costsAtTheLimits() {
        CostChoices x = Due.laid("n0,5;n0,6,7;n0,1,2,3,4;");
        DUE.row("of one", i -> x.cost(0, i), 5, BAD, BAD);
        DUE.row("of two", i -> x.cost(1, i), 6, 7, BAD, BAD);
        DUE.row("of four", i -> x.cost(2, i), 1, 2, 3, 4, BAD);
        x.wipe();
        Due.writeOn(x, "n0,9;");
        x.lay();
        DUE.row("of fewer choices", i -> x.cost(0, i), 9, BAD, BAD, BAD);
        DUE.is("of fewer nodes", x.cost(1, 0), BAD);
    }

    private static void plainCosts() {
        DUE.sentence("What a CHOICE of a NODE costs: PLAIN what is its OWN;");
        CostChoices x = Due.laid("n0,0,1,98,99;");
        DUE.row("PLAIN", i -> x.cost(0, i), 0, 1, 98, NEVER);
    }

    private static void heavyCosts() {
        DUE.sentence("HEAVY twice what it would cost a PLAIN one;");
        CostChoices x = Due.laid("n1,0,1,98,99;");
        DUE.row("HEAVY", i -> x.cost(0, i), 0, 2, 196, NEVER);
    }

    private static void timidCosts() {
        DUE.sentence("TIMID what it would cost a PLAIN one and the CHOICE's number;");
        CostChoices x = Due.laid("n2,0,0,98,99;n2,99,98,97,98;");
        DUE.row("TIMID", i -> x.cost(0, i), 0, 1, 100, NEVER);
        DUE.row("TIMID", i -> x.cost(1, i), NEVER, 99, 99, 101);
    }

    private static void sternCosts() {
        DUE.sentence("STERN what it would cost a HEAVY one, but NEVER, if that is above 20.");
        CostChoices x = Due.laid("n3,0,9,10,11;n3,98,99,12,20;");
        DUE.row("STERN", i -> x.cost(0, i), 0, 18, 20, NEVER);
        DUE.row("STERN", i -> x.cost(1, i), NEVER, NEVER, NEVER, NEVER);
    }

    private static void pinnedCosts() {
        DUE.sentence("A PINNED NODE's other CHOICES cost NEVER.");
        CostChoices x = Due.laid("n1,3,4,5;n3,30,1;n2,1,1,1,1;n0,6;");
        x.pin(0, 1);
        DUE.row("pinned HEAVY", i -> x.cost(0, i), NEVER, 8, NEVER, BAD);
        x.pin(1, 0);
        DUE.row("pinned to what can not be", i -> x.cost(1, i), NEVER, NEVER);
        x.pin(0, 2);
        DUE.row("pinned elsewhere", i -> x.cost(0, i), NEVER, NEVER, 10);
        x.pin(0, 0);
        DUE.row("pinned to the first", i -> x.cost(0, i), 6, NEVER, NEVER);
        x.pin(2, 3);
        DUE.row("pinned TIMID", i -> x.cost(2, i), NEVER, NEVER, NEVER, 4);
        x.pin(3, 0);
        DUE.row("pinned to the only one", i -> x.cost(3, i), 6, BAD);
        x.pin(0, -1);
        DUE.row("unpinned", i -> x.cost(0, i), 6, 8, 10);
        DUE.row("the others stay", i -> x.cost(2, i), NEVER, NEVER, NEVER, 4);
    }

    private static void tieCosts() {
        DUE.sentence("A TIE costs what its TABLE says of both CHOICES.");
        CostChoices x = Due.laid("n1,1,2;n3,50,1;e0,1,0189;");
        DUE.row("at 0", j -> x.tie(0, 1, 0, j), 0, 1);
        DUE.row("at 1", j -> x.tie(0, 1, 1, j), 8, NEVER);
        x.pin(0, 0);
        DUE.row("a pin leaves the tie", j -> x.tie(0, 1, 1, j), 8, NEVER);
        x.rename(0, 3);
        x.price(0, 1, 99);
        DUE.row("kinds and costs leave it", j -> x.tie(0, 1, 1, j), 8, NEVER);
    }

    private static void ties() {
        DUE.sentence("What the TIE of u and v (unlike) costs at CHOICES i and j. NONE: they are not TIED; BAD.");
        CostChoices x = new CostChoices();
        DUE.is("tie(0, 1, 0, 1)", x.tie(0, 1, 0, 1), 1);
        DUE.is("tie(1, 0, 1, 0)", x.tie(1, 0, 1, 0), 1);
        DUE.is("tie(1, 0, 0, 1)", x.tie(1, 0, 0, 1), NEVER);
        DUE.is("tie(1, 0, 0, 2)", x.tie(1, 0, 0, 2), 0);
        DUE.is("not tied", x.tie(1, 4, 0, 0), NONE);
        DUE.is("not tied", x.tie(4, 1, 2, 1), NONE);
        DUE.is("alike", x.tie(1, 1, 0, 0), BAD);
        DUE.is("alike, unlike choices", x.tie(1, 1, 0, 1), BAD);
        DUE.is("no choice, not tied: BAD is first", x.tie(1, 4, 2, 0), BAD);
        DUE.is("no choice, not tied: BAD is first", x.tie(1, 4, 0, 3), BAD);
        x.loose(0, 1);
        DUE.is("tied no more", x.tie(0, 1, 0, 1), NONE);
        DUE.is("tied no more", x.tie(1, 0, 1, 0), NONE);
        x.table(0, 1, 2, 1, 7);
        DUE.is("tied again", x.tie(1, 0, 1, 2), 7);
    }

    private static void tiesOfOne() {
        CostChoices x = Due.laid("n0,1;");
        DUE.is("a node alone", x.tie(0, 0, 0, 0), BAD);
        DUE.is("a node that is none", x.tie(0, 1, 0, 0), BAD);
        DUE.is("a node that is none", x.tie(1, 0, 0, 0), BAD);
    }

    private static void badTies() {
        CostChoices x = new CostChoices();
        DUE.each("tie(0, v, 0, 0)", v -> x.tie(0, v, 0, 0), BAD, -1, 5, 8, Integer.MAX_VALUE, Integer.MIN_VALUE);
        DUE.each("tie(u, 0, 0, 0)", u -> x.tie(u, 0, 0, 0), BAD, -1, 5, 8, Integer.MAX_VALUE, Integer.MIN_VALUE);
        DUE.each("tie(0, 1, i, 0)", i -> x.tie(0, 1, i, 0), BAD, -1, 3, 4, Integer.MAX_VALUE, Integer.MIN_VALUE);
        DUE.each("tie(0, 1, 0, j)", j -> x.tie(0, 1, 0, j), BAD, -1, 2, 3, Integer.MAX_VALUE, Integer.MIN_VALUE);
        DUE.each("tie(1, 0, i, 0)", i -> x.tie(1, 0, i, 0), BAD, -1, 2, 3);
        DUE.each("tie(1, 0, 0, j)", j -> x.tie(1, 0, 0, j), BAD, -1, 3, 4);
    }
}
