/** Promises 22 to 24: keep, back, count. */
public final class KeptTest {
    private static final Due DUE = new Due("KeptTest");
    private static final int BAD = CostChoices.BAD, NO = CostChoices.NO, FULL = CostChoices.FULL;

    public static void main(String[] args) {
        keeping();
        allAsItStands();
        undoAndKeep();
        counting();
        DUE.end();
    }

    private static void keeping() {
        CostChoices x = new CostChoices();
        DUE.is("back", x.back(), NO);
        DUE.is("keep", x.keep(), 1);
        x.price(0, 0, 50);
        DUE.is("keep", x.keep(), 2);
        x.price(0, 0, 60);
        DUE.is("keep", x.keep(), FULL);
        DUE.is("count(4)", x.count(4), 2);
        DUE.is("cost", x.cost(0, 0), 60);
        DUE.is("back", x.back(), 1);
        DUE.is("cost", x.cost(0, 0), 50);
        x.price(0, 0, 70);
        DUE.is("keep", x.keep(), 2);
        x.price(0, 0, 80);
        DUE.is("back", x.back(), 1);
        DUE.is("cost", x.cost(0, 0), 70);
        DUE.is("back", x.back(), 0);
        DUE.is("cost", x.cost(0, 0), 5);
        DUE.is("back", x.back(), NO);
        DUE.is("cost", x.cost(0, 0), 5);
    }

    private static void allAsItStands() {
        CostChoices x = new CostChoices();
        x.pin(0, 1);
        x.rename(2, 3);
        x.keep();
        x.pin(0, 2);
        x.pin(1, 0);
        x.rename(2, 0);
        x.loose(0, 1);
        x.table(1, 4, 0, 0, 9);
        x.table(1, 2, 0, 0, 9);
        x.price(3, 0, 99);
        DUE.is("back", x.back(), 0);
        DUE.row("pinned", u -> x.node(u, 3), 1, CostChoices.NONE, CostChoices.NONE);
        DUE.row("kind", u -> x.node(u, 0), 0, 1, 3, 0, 3);
        DUE.is("tie 0, 1", x.tie(0, 1, 1, 1), 2);
        DUE.is("tie 1, 4", x.tie(1, 4, 0, 0), CostChoices.NONE);
        DUE.is("tie 1, 2", x.tie(1, 2, 0, 0), 0);
        DUE.is("cost", x.cost(3, 0), 6);
        DUE.is("count(1)", x.count(1), 5);
        DUE.is("count(2)", x.count(2), 1);
    }

    private static void undoAndKeep() {
        CostChoices x = new CostChoices();
        x.price(0, 0, 50);
        x.price(0, 0, 51);
        x.keep();
        DUE.is("keeping is no act", x.count(3), 2);
        DUE.is("undo", x.undo(), 1);
        DUE.is("cost", x.cost(0, 0), 50);
        DUE.is("kept still", x.count(4), 1);
        DUE.is("back", x.back(), 0);
        DUE.is("cost", x.cost(0, 0), 51);
        DUE.is("nothing undone", x.undo(), NO);
        DUE.is("count(3)", x.count(3), 0);
        x.keep();
        x.write('n');
        x.back();
        DUE.is("the text stays", x.count(5), 1);
        x.price(0, 0, 52);
        x.keep();
        DUE.is("lay with a fault keeps", x.lay(), NO);
        DUE.is("count(4)", x.count(4), 1);
        DUE.is("count(3)", x.count(3), 1);
    }

    private static void counting() {
        CostChoices x = new CostChoices();
        DUE.is("count(-1)", x.count(-1), BAD);
        DUE.is("count(6)", x.count(6), BAD);
        DUE.is("count(max)", x.count(Integer.MAX_VALUE), BAD);
        x.pin(0, 0);
        x.pin(3, 1);
        x.loose(0, 1);
        x.keep();
        x.write('n');
        x.write('0');
        x.write(';');
        x.write('e');
        DUE.row("count", x::count, 5, 4, 2, 3, 1, 4);
    }
}
