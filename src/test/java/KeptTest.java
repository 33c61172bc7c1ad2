/** Promises 22 to 24: keep, back, count. */
public final class KeptTest {
    private static final Due DUE = new Due("KeptTest");
    private static final int BAD = CostChoices.BAD, NO = CostChoices.NO, FULL = CostChoices.FULL;

    public static void main(String[] args) {
        keeping();
        back();
        backWhenNoneIsKept();
        allAsItStands();
        twoAtMost();
        nothingUndoneByBack();
        keepIsNoAct();
        theTextStays();
        counting();
        countsAtTheLimits();
        countingBad();
        DUE.end();
    }

    private static void keeping() {
        DUE.sentence("KEPT: how many. FULL.");
        CostChoices x = new CostChoices();
        DUE.is("keep", x.keep(), 1);
        DUE.is("keep", x.keep(), 2);
        DUE.is("keep", x.keep(), FULL);
        DUE.is("count(4)", x.count(4), 2);
        x.back();
        DUE.is("keep", x.keep(), 2);
        DUE.is("keep", x.keep(), FULL);
    }

    private static void back() {
        DUE.sentence("As KEPT last: how many are left;");
        CostChoices x = new CostChoices();
        x.keep();
        x.price(0, 0, 50);
        x.keep();
        x.price(0, 0, 60);
        DUE.is("back", x.back(), 1);
        DUE.is("cost", x.cost(0, 0), 50);
        x.price(0, 0, 70);
        DUE.is("keep", x.keep(), 2);
        x.price(0, 0, 80);
        DUE.is("back", x.back(), 1);
        DUE.is("cost", x.cost(0, 0), 70);
        DUE.is("back", x.back(), 0);
        DUE.is("cost", x.cost(0, 0), 5);
    }

    private static void backWhenNoneIsKept() {
        DUE.sentence("nothing is UNDONE then. NO.");
        CostChoices x = new CostChoices();
        DUE.is("none is kept", x.back(), NO);
        x.price(0, 0, 50);
        DUE.is("none is kept", x.back(), NO);
        DUE.is("the act stays", x.cost(0, 0), 50);
        DUE.is("it can be undone", x.count(3), 1);
        x.keep();
        DUE.is("back", x.back(), 0);
        DUE.is("none more", x.back(), NO);
        DUE.is("cost", x.cost(0, 0), 50);
    }

    private static void allAsItStands() {
        DUE.sentence("KEPT is all as it stands: 2 at most.");
        CostChoices x = new CostChoices();
        x.pin(0, 1);
        x.rename(2, 3);
        x.keep();
        x.pin(0, 2);
        x.pin(1, 0);
        x.rename(2, 0);
        x.loose(0, 1);
        x.table(1, 4, 0, 0, 9);
        x.table(1, 2, 0, 0, 9);
        x.price(3, 0, 99);
        DUE.is("back", x.back(), 0);
        DUE.row("pinned", u -> x.node(u, 3), 1, CostChoices.NONE, CostChoices.NONE);
        DUE.row("kind", u -> x.node(u, 0), 0, 1, 3, 0, 3);
        DUE.is("tie 0, 1", x.tie(0, 1, 1, 1), 2);
        DUE.is("tie 1, 4", x.tie(1, 4, 0, 0), CostChoices.NONE);
        DUE.is("tie 1, 2", x.tie(1, 2, 0, 0), 0);
        DUE.is("cost", x.cost(3, 0), 6);
        DUE.is("count(1)", x.count(1), 5);
        DUE.is("count(2)", x.count(2), 1);
    }

    private static void twoAtMost() {
        CostChoices x = new CostChoices();
        x.price(0, 0, 51);
        x.keep();
        x.price(0, 0, 52);
        x.keep();
        x.price(0, 0, 53);
        DUE.is("a third", x.keep(), FULL);
        DUE.is("what stands stays", x.cost(0, 0), 53);
        DUE.is("back", x.back(), 1);
        DUE.is("the second stays", x.cost(0, 0), 52);
        DUE.is("back", x.back(), 0);
        DUE.is("the first stays", x.cost(0, 0), 51);
    }

    private static void nothingUndoneByBack() {
        DUE.sentence("how many are left; nothing is UNDONE then.");
        CostChoices x = new CostChoices();
        x.price(0, 0, 50);
        x.keep();
        x.price(0, 0, 51);
        x.back();
        DUE.is("count(3)", x.count(3), 0);
        DUE.is("undo", x.undo(), NO);
        DUE.is("cost", x.cost(0, 0), 50);
        x.price(0, 0, 52);
        DUE.is("undo of a later act", x.undo(), 0);
        DUE.is("cost", x.cost(0, 0), 50);
        x.keep();
        for (int c = 10; c < 20; c++) {
            x.price(0, 0, c);
        }
        x.back();
        DUE.is("none of the eight", x.undo(), NO);
    }

    private static void keepIsNoAct() {
        CostChoices x = new CostChoices();
        x.price(0, 0, 50);
        x.price(0, 0, 51);
        x.keep();
        DUE.is("keeping is no act", x.count(3), 2);
        DUE.is("undo", x.undo(), 1);
        DUE.is("cost", x.cost(0, 0), 50);
        DUE.is("kept still", x.count(4), 1);
        DUE.is("undo", x.undo(), 0);
        DUE.is("back", x.back(), 0);
        DUE.is("as it stood when it was kept", x.cost(0, 0), 51);
        DUE.is("nothing undone", x.undo(), NO);
    }

    private static void theTextStays() {
        CostChoices x = new CostChoices();
        x.keep();
        x.write('n');
        x.back();
        DUE.is("the text stays", x.count(5), 1);
        x.price(0, 0, 52);
        x.keep();
        DUE.is("lay with a fault keeps", x.lay(), NO);
        DUE.is("count(4)", x.count(4), 1);
        DUE.is("count(3)", x.count(3), 1);
        x.undo();
        DUE.is("the text stays", x.count(5), 1);
    }

    private static void counting() {
        DUE.sentence("How many: 0 NODES, 1 TIES, 2 PINNED, 3 that can be UNDONE, 4 KEPT, 5 letters of THE TEXT. BAD.");
        CostChoices x = new CostChoices();
        DUE.row("count", x::count, 5, 5, 0, 0, 0, 0);
        x.pin(0, 0);
        x.pin(3, 1);
        x.loose(0, 1);
        x.keep();
        x.write('n');
        x.write('0');
        x.write(';');
        x.write('e');
        DUE.row("count", x::count, 5, 4, 2, 3, 1, 4);
    }

    private static void countsAtTheLimits() {
        CostChoices x = Due.laid(Texts.EIGHT_NODES + Texts.TWELVE_TIES);
        for (int u = 0; u < 8; u++) {
            x.pin(u, 0);
        }
        x.keep();
        x.keep();
        Due.writeOn(x, " ".repeat(80));
        DUE.row("all full", x::count, 8, 12, 8, 8, 2, 200, BAD);
        CostChoices y = Due.laid("n0,0;");
        y.wipe();
        DUE.row("all empty", y::count, 1, 0, 0, 0, 0, 0, BAD);
    }

    private static void countingBad() {
        DUE.each("count", new CostChoices()::count, BAD, -1, 6, 7, 256, Integer.MAX_VALUE, Integer.MIN_VALUE);
    }
}
