import java.util.Random;

/**
 * Answers of different calls that must agree with one another, whatever the graph: none of them is reckoned by
 * hand or by the model, so a slip that the class and the model share can still be seen here.
 */
public final class AgreeTest {
    private static final Due DUE = new Due("AgreeTest");
    private static final int NEVER = CostChoices.NEVER, NONE = CostChoices.NONE;
    private static final int GRAPHS = 600;

    private final String text;
    private final CostChoices x;
    private final int nodes;
    private final int least;

    private AgreeTest(String text) {
        this.text = text;
        x = Due.written(text);
        nodes = x.lay();
        least = x.least(0);
    }

    public static void main(String[] args) {
        Random random = new Random(4242);
        int shown = 0;
        int guessed = 0;
        int never = 0;
        for (int tried = 0; shown + guessed < GRAPHS && tried < 10 * GRAPHS; tried++) {
            String text = Texts.random(random).toString();
            if (text.length() <= 200 && Due.written(text).lay() > 0) {
                AgreeTest test = new AgreeTest(text);
                test.go();
                shown += test.x.plan(1);
                guessed += 1 - test.x.plan(1);
                never += test.least == NEVER ? 1 : 0;
            }
        }
        // The graphs are worth nothing if they are all of one sort.
        DUE.holds("enough are shown: " + shown, shown > GRAPHS / 10);
        DUE.holds("enough are guessed: " + guessed, guessed > GRAPHS / 10);
        DUE.holds("enough are NEVER: " + never, never > GRAPHS / 10 && never < GRAPHS * 9 / 10);
        DUE.end();
    }

    private void holds(String what, boolean so) {
        DUE.holds(what + " on " + text, so);
    }

    private void go() {
        ordered();
        plansAddUp();
        turnsAreAllNodes();
        for (int u = 0; u < nodes; u++) {
            withTellsOf(u);
            pinnedIsWith(u);
        }
        loosedIsWithout();
    }

    private void ordered() {
        DUE.sentence("LEAST is the least that a PLAN costs");
        holds("BOUND <= LEAST", x.least(4) <= least);
        holds("LEAST <= the reduced plan", least <= x.plan(0));
        DUE.sentence("It is SHOWN to be least, if RULE 3 was not used");
        holds("SHOWN is least", x.plan(1) == 0 || x.plan(0) == least);
        DUE.sentence("NEXT: the least that a PLAN costs above LEAST");
        int next = x.least(3);
        holds("NEXT is above LEAST", next == NONE || (next > least && next < NEVER));
        DUE.sentence("SAME: NODES (bits) that have one CHOICE in all of these");
        boolean allSame = x.least(2) == (1 << nodes) - 1;
        holds("one way, all the same", allSame == (x.least(1) == 1));
    }

    /** A plan's cost out of cost() and tie() alone. */
    private int sum(int[] plan) {
        long sum = 0;
        for (int u = 0; u < nodes; u++) {
            sum += x.cost(u, plan[u]);
            for (int v = u + 1; v < nodes; v++) {
                int both = x.tie(u, v, plan[u], plan[v]);
                sum += both == NONE ? 0 : both;
            }
        }
        return (int) Math.min(sum, NEVER);
    }

    private void plansAddUp() {
        DUE.sentence("A PLAN is a CHOICE for each NODE; it costs all NODES and TIES together");
        int[] reduced = new int[nodes];
        int[] first = new int[nodes];
        for (int u = 0; u < nodes; u++) {
            reduced[u] = x.reduced(u);
            first[u] = x.first(u);
            holds("first is none, if LEAST is NEVER", (first[u] == NONE) == (least == NEVER));
        }
        holds("the reduced plan adds up", sum(reduced) == x.plan(0));
        holds("the first plan adds up", least == NEVER || sum(first) == least);
    }

    private void turnsAreAllNodes() {
        DUE.sentence("REDUCED are all NODES, one behind another, aside");
        int seen = 0;
        for (int k = 0; k < nodes; k++) {
            seen |= 1 << x.turn(k, 0);
            holds("no rule ties to more than are left", x.turn(k, 1) <= nodes - 1 - k);
        }
        holds("each has its turn", seen == (1 << nodes) - 1);
    }

    private void withTellsOf(int u) {
        DUE.sentence("WITH a CHOICE of a NODE: the least with that");
        int lowest = NEVER;
        int having = 0;
        int firstHaving = NONE;
        for (int i = x.node(u, 1) - 1; i >= 0; i--) {
            int with = x.with(u, i);
            holds("a choice is LEAST, NEVER or not below NEXT",
                    with == least || with == NEVER || (x.least(3) != NONE && with >= x.least(3)));
            lowest = Math.min(lowest, with);
            if (with == least && least < NEVER) {
                having++;
                firstHaving = i;
            }
        }
        holds("some choice has LEAST", lowest == least);
        if (least < NEVER) {
            holds("SAME, if one choice has LEAST", (having == 1) == (((x.least(2) >> u) & 1) == 1));
            holds("first has LEAST", x.with(u, x.first(u)) == least);
            holds("the first of node 0 is the lowest", u > 0 || x.first(0) == firstHaving);
        }
    }

    private void pinnedIsWith(int u) {
        DUE.sentence("A PINNED NODE's other CHOICES cost NEVER");
        CostChoices other = Due.laid(text);
        for (int i = 0; i < other.node(u, 1); i++) {
            int with = other.with(u, i);
            other.pin(u, i);
            holds("pinned is with", other.least(0) == with && other.with(u, i) == with);
            holds("pinned is taken", with == NEVER || (other.reduced(u) == i) || other.plan(1) == 0);
            other.undo();
        }
        holds("undone is as before", other.least(0) == least && other.plan(0) == x.plan(0));
    }

    private void loosedIsWithout() {
        DUE.sentence("WITHOUT a TIE: the least, it being LOOSED");
        holds("untied is none", x.without(0, 0) == NONE);
        CostChoices other = Due.laid(text);
        for (int u = 0; u < nodes; u++) {
            for (int v = u + 1; v < nodes; v++) {
                int without = other.without(u, v);
                if (other.loose(v, u) >= 0) {
                    holds("loosed is without", other.least(0) == without && without <= least);
                    other.undo();
                } else {
                    holds("untied is none", without == NONE);
                }
            }
        }
        holds("undone is as before", other.least(0) == least);
    }
}
