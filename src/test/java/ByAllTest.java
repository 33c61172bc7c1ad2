/** Promises 18 to 21: least, first, with, without. */
public final class ByAllTest {
    private static final Due DUE = new Due("ByAllTest");
    private static final int NEVER = CostChoices.NEVER, BAD = CostChoices.BAD, NONE = CostChoices.NONE;

    public static void main(String[] args) {
        wrongInputs();
        theFirstGraph();
        several();
        whatCanNotBe();
        nextLeast();
        bounds();
        withPins();
        largest();
        DUE.end();
    }

    private static void least(CostChoices x, int... want) {
        DUE.row("least", x::least, want);
    }

    private static void wrongInputs() {
        CostChoices x = new CostChoices();
        DUE.is("least(-1)", x.least(-1), BAD);
        DUE.is("least(5)", x.least(5), BAD);
        DUE.is("first(-1)", x.first(-1), BAD);
        DUE.is("first(5)", x.first(5), BAD);
        DUE.is("with(-1, 0)", x.with(-1, 0), BAD);
        DUE.is("with(5, 0)", x.with(5, 0), BAD);
        DUE.is("with(0, 3)", x.with(0, 3), BAD);
        DUE.is("with(0, -1)", x.with(0, -1), BAD);
        DUE.is("without(0, 5)", x.without(0, 5), BAD);
        DUE.is("without(-1, 0)", x.without(-1, 0), BAD);
        DUE.is("without(0, 4)", x.without(0, 4), NONE);
        DUE.is("none is tied to itself", x.without(0, 0), NONE);
        DUE.is("without(5, 5)", x.without(5, 5), BAD);
    }

    private static void theFirstGraph() {
        CostChoices x = new CostChoices();
        least(x, 22, 1, 31, 24, 12, BAD);
        DUE.row("first", x::first, 0, 1, 1, 1, 2, BAD);
        DUE.row("with 0", i -> x.with(0, i), 22, 25, 24, BAD);
        DUE.is("without(2, 0)", x.without(2, 0), 20);
        DUE.is("without(0, 2)", x.without(0, 2), 20);
        DUE.is("it is tied still", x.tie(0, 2, 0, 0), 3);
        DUE.is("no act", x.count(3), 0);
        least(x, 22, 1, 31, 24, 12);
    }

    private static void several() {
        CostChoices x = Due.laid("n0,0,0;n0,0,0;n0,0,0;n0,0,0;"
                + "e0,1,8000;e0,2,8000;e1,2,8000;e0,3,0181;e1,3,0181;e2,3,0181;");
        // 3 at 1, and of the others one at 0 at most.
        least(x, 3, 4, 8, 11, 0);
        DUE.row("first", x::first, 0, 1, 1, 1, BAD);
        DUE.row("with 3", i -> x.with(3, i), 16, 3);
        DUE.row("with 0", i -> x.with(0, i), 3, 3);
        DUE.is("without(0, 3)", x.without(0, 3), 2);
        DUE.is("without(0, 1)", x.without(0, 1), 3);
        x.pin(3, 0);
        least(x, 16, 6, 8, 24, 0);
        DUE.row("first", x::first, 0, 0, 1, 0);
        DUE.is("without(0, 3)", x.without(3, 0), 8);
    }

    private static void whatCanNotBe() {
        CostChoices x = Due.laid("n0,1,2;n0,99,3;n2,4,5,6;e0,1,0999;e1,2,123456;");
        least(x, NEVER, 0, NONE, NONE, 9);
        DUE.row("first", x::first, NONE, NONE, NONE, BAD);
        DUE.row("with 2", i -> x.with(2, i), NEVER, NEVER, NEVER, BAD);
        DUE.is("without(0, 1)", x.without(0, 1), 12);
        DUE.is("without(1, 2)", x.without(1, 2), NEVER);
        DUE.is("without(0, 2)", x.without(0, 2), NONE);
        x.table(0, 1, 1, 1, 0);
        least(x, 13, 1, 7, 16, 9);
        x.undo();
        least(x, NEVER, 0, NONE, NONE, 9);
    }

    private static void nextLeast() {
        CostChoices none = Due.laid("n0,4,4;n0,1,99;");
        least(none, 5, 2, 2, NONE, 5);
        CostChoices falling = Due.laid("n0,9,7,5,3;");
        least(falling, 3, 1, 1, 5, 3);
        CostChoices rising = Due.laid("n0,3,5,7,9;");
        least(rising, 3, 1, 1, 5, 3);
        CostChoices mixed = Due.laid("n0,5,3,5,4;");
        least(mixed, 3, 1, 1, 4, 3);
        CostChoices single = Due.laid("n1,98;");
        least(single, 196, 1, 1, NONE, 196);
        CostChoices table = Due.laid("n0,0,0;n0,0,0;e0,1,6338;");
        least(table, 3, 2, 0, 6, 3);
        DUE.row("first", table::first, 0, 1);
    }

    private static void bounds() {
        CostChoices x = Due.laid("n0,4,2;n1,5,4;e0,1,7598;");
        DUE.is("bound", x.least(4), 2 + 8 + 5);
        CostChoices y = Due.laid("n0,1;n0,1;e0,1,9;");
        DUE.is("bound of a table of NEVER", y.least(4), NEVER);
        CostChoices z = Due.laid("n0,99,99;n3,11;");
        DUE.is("bound of nodes of NEVER", z.least(4), NEVER);
        x.pin(0, 0);
        DUE.is("bound with a pin", x.least(4), 4 + 8 + 5);
        x.loose(0, 1);
        DUE.is("bound without the tie", x.least(4), 4 + 8);
    }

    private static void withPins() {
        CostChoices x = new CostChoices();
        x.pin(0, 2);
        DUE.row("with 0", i -> x.with(0, i), NEVER, NEVER, 24);
        DUE.is("least(0)", x.least(0), 24);
        DUE.is("first(0)", x.first(0), 2);
        x.pin(0, -1);
        DUE.row("with 0", i -> x.with(0, i), 22, 25, 24);
    }

    private static void largest() {
        CostChoices x = Due.laid("n0,1,1,1,1;n0,1,1,1,1;n0,1,1,1,1;n0,1,1,1,1;"
                + "n0,1,1,1,1;n0,1,1,1,1;n0,1,1,1,1;n0,1,1,1,1;");
        least(x, 8, 65536, 0, NONE, 8);
        DUE.row("first", x::first, 0, 0, 0, 0, 0, 0, 0, 0, BAD);
        x.price(7, 3, 0);
        least(x, 7, 16384, 128, 8, 7);
        x.pin(0, 2);
        least(x, 7, 4096, 129, 8, 7);
        DUE.row("first", x::first, 2, 0, 0, 0, 0, 0, 0, 3);
    }
}
