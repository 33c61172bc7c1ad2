/** Promises 18 to 21: least, first, with, without. */
public final class ByAllTest {
    private static final Due DUE = new Due("ByAllTest");
    private static final int NEVER = CostChoices.NEVER, BAD = CostChoices.BAD, NONE = CostChoices.NONE;

    public static void main(String[] args) {
        leasts();
        leastOfAll();
        leastOfALaterGraph();
        justNever();
        firstChoices();
        firstPlans();
        ways();
        noneIfNever();
        neverAndBack();
        same();
        nextLeast();
        nextIsNone();
        bounds();
        withChoices();
        withBad();
        withoutTies();
        withoutNone();
        largest();
        DUE.end();
    }

    private static void least(CostChoices x, int... want) {
        DUE.row("least", x::least, want);
    }

    private static void leasts() {
        DUE.sentence("LEAST (what = 0), WAYS (1), SAME (2; NONE), NEXT (3; NONE), BOUND (4). BAD.");
        CostChoices x = new CostChoices();
        least(x, 22, 1, 31, 24, 12, BAD);
        DUE.each("least", x::least, BAD, -1, 5, 6, 256, Integer.MAX_VALUE, Integer.MIN_VALUE);
        least(x, 22, 1, 31, 24, 12, BAD);
        least(Due.laid(Texts.IMPOSSIBLE), NEVER, 0, NONE, NONE, 9, BAD);
    }

    private static void leastOfAll() {
        DUE.sentence("LEAST is the least that a PLAN costs;");
        least(Due.laid("n0,0;"), 0);
        least(Due.laid("n0,98;"), 98);
        least(Due.laid("n0,99,7,9;"), 7);
        least(Due.laid("n0,9,99,99,7;"), 7);
        least(Due.laid("n1,98;".repeat(8) + Texts.TWELVE_TIES.replace(",1;", ",8;")), 8 * 196 + 12 * 8);
        least(Due.laid("n0,0,1;n0,0,1;e0,1,8543;"), 5, 2);
        least(Due.laid(Texts.ASTRAY), 3);
    }

    private static void leastOfALaterGraph() {
        CostChoices x = Due.laid("n0,1;n0,99;n0,1;");
        least(x, NEVER, 0);
        x.wipe();
        Due.writeOn(x, "n0,3,9,4;");
        x.lay();
        least(x, 3, 1, 1, 4, 3);
        DUE.row("first", x::first, 0, BAD);
        CostChoices y = Due.laid("n0,1;n0,99;n0,1;");
        least(y, NEVER, 0);
        y.wipe();
        Due.writeOn(y, "n0,1;n0,4;");
        y.lay();
        least(y, 5, 1, 3, NONE, 5);
        DUE.row("first", y::first, 0, 0, BAD);
    }

    private static void justNever() {
        DUE.sentence("NEVER is 1000000, and whatever is as much or more together is NEVER, just that.");
        DUE.is("NEVER", NEVER, 1000000);
        CostChoices x = Due.laid("n1,99;n2,0,99;n3,11;n0,5;e0,1,98;e2,3,9;");
        DUE.row("what it costs", u -> x.cost(u, 0), 1000000, 0, 1000000, 5);
        DUE.is("TIMID", x.cost(1, 1), 1000000);
        DUE.is("tie", x.tie(0, 1, 0, 0), 1000000);
        DUE.is("LEAST", x.least(0), 1000000);
        DUE.is("BOUND", x.least(4), 1000000);
        DUE.is("plan", x.plan(0), 1000000);
        DUE.is("with", x.with(1, 1), 1000000);
        DUE.is("without", x.without(2, 3), 1000000);
    }

    private static void firstChoices() {
        DUE.sentence("The CHOICE of a NODE in the FIRST PLAN. NONE; BAD.");
        CostChoices x = new CostChoices();
        DUE.row("first", x::first, 0, 1, 1, 1, 2, BAD);
        DUE.each("first", x::first, BAD, -1, 5, 8, Integer.MAX_VALUE, Integer.MIN_VALUE);
        CostChoices y = Due.laid(Texts.IMPOSSIBLE);
        DUE.row("there is none", y::first, NONE, NONE, NONE, BAD);
        DUE.each("there is none, but BAD is first", y::first, BAD, -1, 3, Integer.MAX_VALUE, Integer.MIN_VALUE);
        DUE.row("of one", Due.laid("n0,7;")::first, 0, BAD);
        DUE.row("the last choice", Due.laid("n0,9,9,9,8;".repeat(8))::first, 3, 3, 3, 3, 3, 3, 3, 3, BAD);
    }

    private static void firstPlans() {
        DUE.sentence("the FIRST PLAN with it is that of the lowest CHOICE of NODE 0, then 1, ..;");
        DUE.row("the lowest of 0", Due.laid("n0,0,0;n0,0,0;e0,1,6338;")::first, 0, 1);
        DUE.row("not of 1", Due.laid("n0,0,0,0;n0,0,0,0;e0,1,992929299;")::first, 0, 2);
        DUE.row("then of 1", Due.laid("n0,0,0;n0,0,0;n0,0,0;e1,2,6338;")::first, 0, 0, 1);
        CostChoices x = Due.laid(Texts.ASTRAY);
        DUE.row("first", x::first, 0, 1, 1, 1, BAD);
        x.pin(3, 0);
        DUE.row("first", x::first, 0, 0, 1, 0);
    }

    private static void ways() {
        DUE.sentence("WAYS how many have it");
        DUE.is("one", Due.laid("n0,4,5;n0,9;").least(1), 1);
        DUE.is("two", Due.laid("n0,4,4;n0,9;").least(1), 2);
        DUE.is("all", Due.laid("n0,4,4;n0,9,9,9;n0,1,1,1,1;").least(1), 24);
        CostChoices x = Due.laid(Texts.ASTRAY);
        // 3 at 1, and of the others one at 0 at most.
        least(x, 3, 4, 8, 11, 0);
        x.pin(3, 0);
        least(x, 16, 6, 8, 24, 0);
    }

    private static void noneIfNever() {
        DUE.sentence("(0, if LEAST is NEVER; all that follows is none then).");
        CostChoices x = Due.laid(Texts.IMPOSSIBLE);
        least(x, NEVER, 0, NONE, NONE, 9);
        DUE.row("first", x::first, NONE, NONE, NONE, BAD);
        DUE.row("with 2", i -> x.with(2, i), NEVER, NEVER, NEVER, BAD);
        DUE.is("without(0, 1)", x.without(0, 1), 12);
        DUE.is("without(1, 2)", x.without(1, 2), NEVER);
        DUE.is("without(0, 2)", x.without(0, 2), NONE);
        CostChoices one = Due.laid("n0,99;");
        least(one, NEVER, 0, NONE, NONE, NEVER);
        DUE.is("first", one.first(0), NONE);
        DUE.is("with", one.with(0, 0), NEVER);
    }

    private static void neverAndBack() {
        CostChoices x = Due.laid(Texts.IMPOSSIBLE);
        least(x, NEVER, 0, NONE, NONE, 9);
        x.table(0, 1, 1, 1, 0);
        least(x, 13, 1, 7, 16, 9);
        DUE.row("first", x::first, 1, 1, 0);
        x.undo();
        least(x, NEVER, 0, NONE, NONE, 9);
        DUE.row("first", x::first, NONE, NONE, NONE);
    }

    private static void same() {
        DUE.sentence("SAME: NODES (bits) that have one CHOICE in all of these.");
        DUE.is("none of two", Due.laid("n0,4,4;n0,3,3;").least(2), 0);
        DUE.is("the first", Due.laid("n0,4,5;n0,3,3;").least(2), 1);
        DUE.is("the second", Due.laid("n0,4,4;n0,3,2;").least(2), 2);
        DUE.is("both", Due.laid("n0,4,5;n0,3,2;").least(2), 3);
        DUE.is("of one choice", Due.laid("n0,4;n0,3,3;").least(2), 1);
        DUE.is("all eight", Due.laid("n0,2,1;".repeat(8)).least(2), 255);
        DUE.is("none of eight", Due.laid("n0,1,1;".repeat(8)).least(2), 0);
        DUE.is("the eighth", Due.laid("n0,1,1;".repeat(7) + "n0,1;").least(2), 128);
        // 0 and 1 change together, 2 never.
        DUE.is("together", Due.laid("n0,1,1;n0,1,1;n0,1,2;e0,1,0990;").least(2), 4);
    }

    private static void nextLeast() {
        DUE.sentence("NEXT: the least that a PLAN costs above LEAST.");
        least(Due.laid("n0,9,7,5,3;"), 3, 1, 1, 5, 3);
        least(Due.laid("n0,3,5,7,9;"), 3, 1, 1, 5, 3);
        least(Due.laid("n0,5,3,5,4;"), 3, 1, 1, 4, 3);
        least(Due.laid("n0,3,3,4,3;"), 3, 3, 0, 4, 3);
        least(Due.laid("n0,3,98;"), 3, 1, 1, 98, 3);
        least(Due.laid("n0,0,0;n0,0,0;e0,1,6338;"), 3, 2, 0, 6, 3);
    }

    private static void nextIsNone() {
        least(Due.laid("n1,98;"), 196, 1, 1, NONE, 196);
        least(Due.laid("n0,4,4;n0,1,99;"), 5, 2, 2, NONE, 5);
        least(Due.laid("n3,10,11;"), 20, 1, 1, NONE, 20);
        CostChoices x = Due.laid("n0,4,5;");
        DUE.is("before", x.least(3), 5);
        x.pin(0, 1);
        least(x, 5, 1, 1, NONE, 5);
    }

    private static void bounds() {
        DUE.sentence("BOUND: the least of each NODE, and the least entry of each TABLE, together.");
        CostChoices x = Due.laid("n0,4,2;n1,5,4;e0,1,7598;");
        DUE.is("bound", x.least(4), 2 + 8 + 5);
        DUE.is("of a table of NEVER", Due.laid("n0,1;n0,1;e0,1,9;").least(4), NEVER);
        DUE.is("of nodes of NEVER", Due.laid("n0,99,99;n3,11;").least(4), NEVER);
        DUE.is("of one node of NEVER", Due.laid("n0,1;n3,11,12;").least(4), NEVER);
        DUE.is("of nought", Due.laid("n0,5,0;n0,0,9;e0,1,9909;").least(4), 0);
        DUE.is("of many", Due.laid(Texts.EIGHT_NODES + Texts.TWELVE_TIES).least(4), 20);
        x.pin(0, 0);
        DUE.is("with a pin", x.least(4), 4 + 8 + 5);
        x.loose(0, 1);
        DUE.is("without the tie", x.least(4), 4 + 8);
    }

    private static void withChoices() {
        DUE.sentence("WITH a CHOICE of a NODE: the least with that.");
        CostChoices x = new CostChoices();
        DUE.row("with 0", i -> x.with(0, i), 22, 25, 24, BAD);
        DUE.row("with 4", i -> x.with(4, i), 39, 39, 22, BAD);
        DUE.is("not pinned by it", x.count(2), 0);
        DUE.is("no act", x.count(3), 0);
        DUE.is("least(0)", x.least(0), 22);
        x.pin(0, 2);
        DUE.row("pinned to 2", i -> x.with(0, i), NEVER, NEVER, 24);
        DUE.is("least(0)", x.least(0), 24);
        DUE.is("first(0)", x.first(0), 2);
        x.pin(0, -1);
        DUE.row("unpinned", i -> x.with(0, i), 22, 25, 24);
        CostChoices y = Due.laid(Texts.ASTRAY);
        DUE.row("with 3", i -> y.with(3, i), 16, 3, BAD);
        DUE.row("with 0", i -> y.with(0, i), 3, 3, BAD);
        DUE.row("of one", i -> Due.laid("n0,6,99;").with(0, i), 6, NEVER, BAD);
    }

    private static void withBad() {
        DUE.sentence("`int with(int u, int i)`: WITH. BAD.");
        CostChoices x = new CostChoices();
        DUE.each("with(u, 0)", u -> x.with(u, 0), BAD, -1, 5, 8, Integer.MAX_VALUE, Integer.MIN_VALUE);
        DUE.each("with(0, i)", i -> x.with(0, i), BAD, -1, 3, 4, Integer.MAX_VALUE, Integer.MIN_VALUE);
        DUE.each("with(1, i)", i -> x.with(1, i), BAD, -1, 2, 3);
        DUE.is("with(4, 2)", x.with(4, 2), 22);
    }

    private static void withoutTies() {
        DUE.sentence("WITHOUT a TIE: the least, it being LOOSED.");
        CostChoices x = new CostChoices();
        DUE.is("without(2, 0)", x.without(2, 0), 20);
        DUE.is("without(0, 2)", x.without(0, 2), 20);
        DUE.is("it is tied still", x.tie(0, 2, 0, 0), 3);
        DUE.is("ties", x.count(1), 5);
        DUE.is("no act", x.count(3), 0);
        least(x, 22, 1, 31, 24, 12);
        x.loose(0, 2);
        DUE.is("the same as loosed", x.least(0), 20);
        CostChoices y = Due.laid(Texts.ASTRAY);
        DUE.is("without(0, 3)", y.without(0, 3), 2);
        DUE.is("without(0, 1)", y.without(0, 1), 3);
        y.pin(3, 0);
        DUE.is("without(3, 0)", y.without(3, 0), 8);
    }

    private static void withoutNone() {
        DUE.sentence("WITHOUT. NONE: they are not TIED; BAD.");
        CostChoices x = new CostChoices();
        DUE.is("without(0, 4)", x.without(0, 4), NONE);
        DUE.is("without(4, 0)", x.without(4, 0), NONE);
        DUE.each("none is tied to itself", u -> x.without(u, u), NONE, 0, 1, 4);
        DUE.each("without(0, v)", v -> x.without(0, v), BAD, -1, 5, 8, 32, 33, Integer.MAX_VALUE, Integer.MIN_VALUE);
        DUE.each("without(u, 0)", u -> x.without(u, 0), BAD, -1, 5, 8, 32, 33, Integer.MAX_VALUE, Integer.MIN_VALUE);
        DUE.each("without(u, u)", u -> x.without(u, u), BAD, -1, 5, 8);
        x.loose(3, 4);
        DUE.is("tied no more", x.without(3, 4), NONE);
        x.table(0, 4, 0, 0, 0);
        DUE.is("tied now", x.without(4, 0), x.least(0));
    }

    private static void largest() {
        DUE.sentence("by all, the first plan that has it, how many have, what is the same in all of these");
        CostChoices x = Due.laid(Texts.MOST_PLANS);
        least(x, 8, 65536, 0, NONE, 8);
        DUE.row("first", x::first, 0, 0, 0, 0, 0, 0, 0, 0, BAD);
        x.price(7, 3, 0);
        least(x, 7, 16384, 128, 8, 7);
        x.pin(0, 2);
        least(x, 7, 4096, 129, 8, 7);
        DUE.row("first", x::first, 2, 0, 0, 0, 0, 0, 0, 3);
        DUE.row("with 7", i -> x.with(7, i), 8, 8, 8, 7);
    }
}
