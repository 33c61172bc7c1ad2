/** Promises 9 to 14: price, table, loose, pin, rename, undo. */
public final class ActsTest {
    private static final Due DUE = new Due("ActsTest");
    private static final int NEVER = CostChoices.NEVER, BAD = CostChoices.BAD, NONE = CostChoices.NONE;
    private static final int NO = CostChoices.NO, FULL = CostChoices.FULL;
    private static final String NODES8 = "n0,1;n0,1;n0,1;n0,1;n0,1;n0,1;n0,1;n0,1;";
    private static final String TIES12 = "e0,1,1;e0,2,1;e0,3,1;e0,4,1;e0,5,1;e0,6,1;e0,7,1;"
            + "e1,2,1;e1,3,1;e1,4,1;e1,5,1;e1,6,1;";

    public static void main(String[] args) {
        prices();
        tables();
        tablesOfNewTies();
        tablesWhenFull();
        loosing();
        pins();
        renames();
        undoing();
        undoOfEach();
        undoOfTheLastEight();
        refusedActsAreNone();
        DUE.end();
    }

    private static void prices() {
        CostChoices x = new CostChoices();
        DUE.is("price(1, 0, 99)", x.price(1, 0, 99), 3);
        DUE.is("cost", x.cost(1, 0), NEVER);
        DUE.is("price(1, 0, 99)", x.price(1, 0, 99), NO);
        DUE.is("price(1, 0, 98)", x.price(1, 0, 98), 99);
        DUE.is("cost", x.cost(1, 0), 196);
        DUE.is("price(1, 0, 0)", x.price(1, 0, 0), 98);
        DUE.is("cost", x.cost(1, 0), 0);
        DUE.is("the other", x.cost(1, 1), 2);
        DUE.is("price(1, 0, 100)", x.price(1, 0, 100), BAD);
        DUE.is("price(1, 0, -1)", x.price(1, 0, -1), BAD);
        DUE.is("price(1, 2, 0)", x.price(1, 2, 0), BAD);
        DUE.is("price(1, -1, 0)", x.price(1, -1, 0), BAD);
        DUE.is("price(5, 0, 0)", x.price(5, 0, 0), BAD);
        DUE.is("price(-1, 0, 0)", x.price(-1, 0, 0), BAD);
        DUE.is("acts", x.count(3), 3);
    }

    private static void tables() {
        CostChoices x = new CostChoices();
        DUE.is("table(0, 1, 1, 0, 3)", x.table(0, 1, 1, 0, 3), 9);
        DUE.is("tie", x.tie(1, 0, 0, 1), 3);
        DUE.is("table(1, 0, 0, 1, 3)", x.table(1, 0, 0, 1, 3), NO);
        DUE.is("table(1, 0, 0, 1, 9)", x.table(1, 0, 0, 1, 9), 3);
        DUE.is("tie", x.tie(0, 1, 1, 0), NEVER);
        DUE.is("table(0, 1, 0, 0, 0)", x.table(0, 1, 0, 0, 0), NO);
        DUE.is("table(0, 1, 0, 0, 8)", x.table(0, 1, 0, 0, 8), 0);
        DUE.is("the others", x.tie(0, 1, 0, 1), 1);
        DUE.is("table(0, 1, 0, 0, 10)", x.table(0, 1, 0, 0, 10), BAD);
        DUE.is("table(0, 1, 0, 0, -1)", x.table(0, 1, 0, 0, -1), BAD);
        DUE.is("table(0, 0, 0, 0, 1)", x.table(0, 0, 0, 0, 1), BAD);
        DUE.is("table(0, 1, 3, 0, 1)", x.table(0, 1, 3, 0, 1), BAD);
        DUE.is("table(0, 1, 0, 2, 1)", x.table(0, 1, 0, 2, 1), BAD);
        DUE.is("table(0, 1, -1, 0, 1)", x.table(0, 1, -1, 0, 1), BAD);
        DUE.is("table(0, 5, 0, 0, 1)", x.table(0, 5, 0, 0, 1), BAD);
        DUE.is("table(-1, 1, 0, 0, 1)", x.table(-1, 1, 0, 0, 1), BAD);
        DUE.is("ties", x.count(1), 5);
        DUE.is("acts", x.count(3), 3);
    }

    private static void tablesOfNewTies() {
        CostChoices x = new CostChoices();
        DUE.is("table(4, 0, 2, 1, 9)", x.table(4, 0, 2, 1, 9), 0);
        DUE.is("ties", x.count(1), 6);
        for (int i = 0; i < 3; i++) {
            for (int j = 0; j < 3; j++) {
                DUE.is("tie", x.tie(0, 4, i, j), i == 1 && j == 2 ? NEVER : 0);
            }
        }
        DUE.is("one act", x.count(3), 1);
        DUE.is("a nought ties them", x.table(1, 3, 0, 0, 0), 0);
        DUE.is("ties", x.count(1), 7);
        DUE.is("tie", x.tie(3, 1, 1, 1), 0);
        DUE.is("now it is so", x.table(1, 3, 0, 0, 0), NO);
        x.loose(0, 4);
        DUE.is("tied anew", x.table(0, 4, 0, 0, 2), 0);
        DUE.is("by noughts", x.tie(0, 4, 1, 2), 0);
    }

    private static void tablesWhenFull() {
        CostChoices x = Due.laid(NODES8 + TIES12);
        DUE.is("full", x.table(1, 7, 0, 0, 2), FULL);
        DUE.is("full for a nought too", x.table(7, 1, 0, 0, 0), FULL);
        DUE.is("bad is first", x.table(1, 7, 0, 0, 10), BAD);
        DUE.is("not tied still", x.tie(1, 7, 0, 0), NONE);
        DUE.is("no act", x.count(3), 0);
        DUE.is("those that are tied", x.table(1, 6, 0, 0, 2), 1);
        DUE.is("it is so", x.table(1, 6, 0, 0, 2), NO);
        x.loose(0, 1);
        DUE.is("room for one", x.table(1, 7, 0, 0, 2), 0);
        DUE.is("full", x.table(0, 1, 0, 0, 2), FULL);
    }

    private static void loosing() {
        CostChoices x = new CostChoices();
        DUE.is("loose(2, 0)", x.loose(2, 0), 4);
        DUE.is("tie", x.tie(0, 2, 0, 0), NONE);
        DUE.is("loose(0, 2)", x.loose(0, 2), NO);
        DUE.is("loose(0, 4)", x.loose(0, 4), NO);
        DUE.is("none is tied to itself", x.loose(0, 0), NO);
        DUE.is("loose(0, 5)", x.loose(0, 5), BAD);
        DUE.is("loose(-1, 0)", x.loose(-1, 0), BAD);
        DUE.is("loose(5, 5)", x.loose(5, 5), BAD);
        DUE.is("loose(0, 1)", x.loose(0, 1), 3);
        DUE.is("loose(1, 2)", x.loose(1, 2), 2);
        DUE.is("loose(2, 3)", x.loose(2, 3), 1);
        DUE.is("loose(3, 4)", x.loose(3, 4), 0);
        DUE.is("acts", x.count(3), 5);
    }

    private static void pins() {
        CostChoices x = new CostChoices();
        DUE.is("pin(0, -1)", x.pin(0, -1), NO);
        DUE.is("pin(0, 2)", x.pin(0, 2), NONE);
        DUE.is("pin(0, 2)", x.pin(0, 2), NO);
        DUE.is("pin(0, 1)", x.pin(0, 1), 2);
        DUE.is("pin(0, 3)", x.pin(0, 3), BAD);
        DUE.is("pin(0, -2)", x.pin(0, -2), BAD);
        DUE.is("pin(5, 0)", x.pin(5, 0), BAD);
        DUE.is("pin(5, -1)", x.pin(5, -1), BAD);
        DUE.is("pin(-1, -1)", x.pin(-1, -1), BAD);
        DUE.is("count(2)", x.count(2), 1);
        DUE.is("pin(1, 0)", x.pin(1, 0), NONE);
        DUE.is("count(2)", x.count(2), 2);
        DUE.is("pin(0, -1)", x.pin(0, -1), 1);
        DUE.is("count(2)", x.count(2), 1);
        DUE.is("acts", x.count(3), 4);
    }

    private static void renames() {
        CostChoices x = new CostChoices();
        DUE.is("rename(4, 0)", x.rename(4, 0), 3);
        DUE.row("PLAIN", i -> x.cost(4, i), 9, 10, 1);
        DUE.is("rename(4, 2)", x.rename(4, 2), 0);
        DUE.row("TIMID", i -> x.cost(4, i), 9, 11, 3);
        DUE.is("rename(4, 1)", x.rename(4, 1), 2);
        DUE.row("HEAVY", i -> x.cost(4, i), 18, 20, 2);
        DUE.is("rename(0, 3)", x.rename(0, 3), 0);
        DUE.row("STERN", i -> x.cost(0, i), 10, 4, 14);
        DUE.is("rename(0, 3)", x.rename(0, 3), NO);
        DUE.is("rename(0, 4)", x.rename(0, 4), BAD);
        DUE.is("rename(0, -1)", x.rename(0, -1), BAD);
        DUE.is("rename(5, 0)", x.rename(5, 0), BAD);
        DUE.is("rename(-1, 0)", x.rename(-1, 0), BAD);
        DUE.is("acts", x.count(3), 4);
    }

    private static void undoing() {
        CostChoices x = new CostChoices();
        DUE.is("undo of nothing", x.undo(), NO);
        x.price(0, 0, 1);
        x.price(0, 0, 2);
        DUE.is("undo", x.undo(), 1);
        DUE.is("cost", x.cost(0, 0), 1);
        x.price(0, 0, 3);
        DUE.is("undo", x.undo(), 1);
        DUE.is("cost", x.cost(0, 0), 1);
        DUE.is("undo", x.undo(), 0);
        DUE.is("cost", x.cost(0, 0), 5);
        DUE.is("undo", x.undo(), NO);
        DUE.is("cost", x.cost(0, 0), 5);
    }

    private static void undoOfEach() {
        CostChoices x = new CostChoices();
        x.loose(0, 1);
        x.undo();
        DUE.is("loose", x.tie(0, 1, 1, 0), NEVER);
        DUE.is("loose", x.tie(0, 1, 1, 1), 2);
        x.table(1, 4, 0, 0, 5);
        x.undo();
        DUE.is("table that tied", x.tie(1, 4, 0, 0), NONE);
        x.table(0, 1, 1, 0, 5);
        x.undo();
        DUE.is("table", x.tie(0, 1, 1, 0), NEVER);
        x.pin(0, 1);
        x.pin(0, 2);
        x.undo();
        DUE.is("pin", x.node(0, 3), 1);
        x.undo();
        DUE.is("pin", x.node(0, 3), NONE);
        x.rename(0, 3);
        x.undo();
        DUE.is("rename", x.node(0, 0), 0);
        DUE.is("answers follow", x.least(0), 22);
        x.price(0, 0, 50);
        DUE.is("answers follow", x.least(0), 24);
        x.undo();
        DUE.is("answers follow", x.least(0), 22);
        DUE.is("answers follow", x.plan(0), 22);
    }

    private static void undoOfTheLastEight() {
        CostChoices x = new CostChoices();
        for (int c = 10; c < 21; c++) {
            x.price(0, 0, c);
            DUE.is("count(3)", x.count(3), Math.min(c - 9, 8));
        }
        for (int left = 7; left >= 0; left--) {
            DUE.is("undo", x.undo(), left);
            DUE.is("cost", x.cost(0, 0), 12 + left);
        }
        DUE.is("undo", x.undo(), NO);
        DUE.is("cost", x.cost(0, 0), 12);
    }

    private static void refusedActsAreNone() {
        CostChoices x = new CostChoices();
        x.price(0, 0, 5);
        x.price(0, 0, 100);
        x.table(0, 1, 0, 0, 0);
        x.table(0, 0, 0, 0, 0);
        x.loose(0, 3);
        x.pin(0, -1);
        x.pin(0, 3);
        x.rename(0, 0);
        x.rename(0, 4);
        DUE.row("count", x::count, 5, 5, 0, 0, 0, 0);
    }
}
