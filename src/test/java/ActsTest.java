/** Promises 9 to 14: price, table, loose, pin, rename, undo. */
public final class ActsTest {
    private static final Due DUE = new Due("ActsTest");
    private static final int NEVER = CostChoices.NEVER, BAD = CostChoices.BAD, NONE = CostChoices.NONE;
    private static final int NO = CostChoices.NO, FULL = CostChoices.FULL;

    public static void main(String[] args) {
        prices();
        pricesAtTheLimits();
        pricesThatAreSo();
        tables();
        tablesAtTheLimits();
        tablesThatAreSo();
        tablesOfNewTies();
        noughtsTie();
        tiedAnewByNoughts();
        tablesWhenFull();
        loosing();
        loosingNone();
        pins();
        pinsAtTheLimits();
        pinsThatAreSo();
        renames();
        renamesAtTheLimits();
        undoing();
        undoOfEach();
        actsOfNoEffect();
        undoOfTheLastEight();
        undoOfEightAndOfNine();
        DUE.end();
    }

    private static void prices() {
        DUE.sentence("An OWN cost is CHANGED to c (0 to 98; 99: NEVER): what it was. BAD; NO: it is so.");
        CostChoices x = new CostChoices();
        DUE.is("price(1, 0, 99)", x.price(1, 0, 99), 3);
        DUE.is("cost", x.cost(1, 0), NEVER);
        DUE.is("price(1, 0, 98)", x.price(1, 0, 98), 99);
        DUE.is("cost", x.cost(1, 0), 196);
        DUE.is("price(1, 0, 0)", x.price(1, 0, 0), 98);
        DUE.is("cost", x.cost(1, 0), 0);
        DUE.is("price(1, 0, 1)", x.price(1, 0, 1), 0);
        DUE.is("the other", x.cost(1, 1), 2);
        DUE.row("another node", i -> x.cost(0, i), 5, 2, 7);
        DUE.is("acts", x.count(3), 4);
        x.pin(1, 1);
        DUE.is("what it was, pinned or not", x.price(1, 0, 7), 1);
        DUE.is("cost", x.cost(1, 0), NEVER);
        x.rename(1, 3);
        DUE.is("what it was, of any kind", x.price(1, 1, 50), 1);
        DUE.is("what it was, of any kind", x.price(1, 1, 60), 50);
    }

    private static void pricesAtTheLimits() {
        CostChoices x = new CostChoices();
        DUE.each("price(1, 0, c)", c -> x.price(1, 0, c), BAD, 100, 101, -1, -99, 1000000, 256, 65536,
                Integer.MAX_VALUE, Integer.MIN_VALUE);
        DUE.each("price(1, i, 0)", i -> x.price(1, i, 0), BAD, 2, 3, 4, -1, Integer.MAX_VALUE, Integer.MIN_VALUE);
        DUE.each("price(u, 0, 0)", u -> x.price(u, 0, 0), BAD, 5, 8, -1, Integer.MAX_VALUE, Integer.MIN_VALUE);
        DUE.is("no act", x.count(3), 0);
        DUE.row("costs stay", i -> x.cost(1, i), 6, 2);
        DUE.is("the last choice of the last node", x.price(4, 2, 0), 1);
        DUE.is("the first of the first", x.price(0, 0, 0), 5);
    }

    private static void pricesThatAreSo() {
        CostChoices x = Due.laid("n1,0,98,99;");
        DUE.is("0 is so", x.price(0, 0, 0), NO);
        DUE.is("98 is so", x.price(0, 1, 98), NO);
        DUE.is("99 is so", x.price(0, 2, 99), NO);
        DUE.is("no act", x.count(3), 0);
        x.pin(0, 0);
        DUE.is("it costs NEVER, but is 98", x.price(0, 1, 99), 98);
        DUE.is("now it is so", x.price(0, 1, 99), NO);
        DUE.is("acts", x.count(3), 2);
    }

    private static void tables() {
        DUE.sentence("The TABLE of u and v (unlike) is CHANGED to c (0 to 8; 9: NEVER) at CHOICES i and j,");
        CostChoices x = new CostChoices();
        DUE.is("table(0, 1, 1, 0, 3)", x.table(0, 1, 1, 0, 3), 9);
        DUE.is("tie", x.tie(1, 0, 0, 1), 3);
        DUE.is("table(1, 0, 0, 1, 9)", x.table(1, 0, 0, 1, 9), 3);
        DUE.is("tie", x.tie(0, 1, 1, 0), NEVER);
        DUE.is("table(0, 1, 0, 0, 8)", x.table(0, 1, 0, 0, 8), 0);
        DUE.is("tie", x.tie(0, 1, 0, 0), 8);
        DUE.is("table(0, 1, 0, 0, 0)", x.table(0, 1, 0, 0, 0), 8);
        DUE.is("tie", x.tie(0, 1, 0, 0), 0);
        DUE.is("the others", x.tie(0, 1, 0, 1), 1);
        DUE.is("the others", x.tie(0, 1, 1, 1), 2);
        DUE.is("ties", x.count(1), 5);
        DUE.is("acts", x.count(3), 4);
    }

    private static void tablesAtTheLimits() {
        CostChoices x = new CostChoices();
        DUE.each("table(0, 1, 0, 0, c)", c -> x.table(0, 1, 0, 0, c), BAD, 10, 11, -1, 99, 1000000,
                Integer.MAX_VALUE, Integer.MIN_VALUE);
        DUE.each("table(u, u, 0, 0, 1)", u -> x.table(u, u, 0, 0, 1), BAD, 0, 1, 4, 5, -1);
        DUE.is("alike, unlike choices", x.table(0, 0, 0, 1, 1), BAD);
        DUE.each("table(0, 1, i, 0, 1)", i -> x.table(0, 1, i, 0, 1), BAD, 3, 4, -1, Integer.MAX_VALUE, Integer.MIN_VALUE);
        DUE.each("table(0, 1, 0, j, 5)", j -> x.table(0, 1, 0, j, 5), BAD, 2, 3, -1, Integer.MAX_VALUE, Integer.MIN_VALUE);
        DUE.each("table(0, v, 0, 0, 1)", v -> x.table(0, v, 0, 0, 1), BAD, 5, 8, -1, Integer.MAX_VALUE, Integer.MIN_VALUE);
        DUE.each("table(u, 1, 0, 0, 1)", u -> x.table(u, 1, 0, 0, 1), BAD, 5, 8, -1, Integer.MAX_VALUE, Integer.MIN_VALUE);
        DUE.is("not tied, no choice", x.table(1, 4, 2, 0, 1), BAD);
        DUE.is("not tied, no choice", x.table(1, 4, 0, 3, 1), BAD);
        DUE.is("not tied, none that is told", x.table(1, 4, 0, 0, 10), BAD);
        DUE.is("not tied still", x.tie(1, 4, 0, 0), NONE);
        DUE.is("ties", x.count(1), 5);
        DUE.is("no act", x.count(3), 0);
        DUE.is("the last choices of the last nodes", x.table(4, 3, 2, 1, 8), 1);
    }

    private static void tablesThatAreSo() {
        DUE.sentence("what it was (9: NEVER). BAD; NO: it is so;");
        CostChoices x = Due.laid("n0,1,2;n0,1,2;e0,1,0189;");
        DUE.is("0 is so", x.table(0, 1, 0, 0, 0), NO);
        DUE.is("1 is so", x.table(0, 1, 0, 1, 1), NO);
        DUE.is("1 is so, from the other side", x.table(1, 0, 1, 0, 1), NO);
        DUE.is("8 is so", x.table(0, 1, 1, 0, 8), NO);
        DUE.is("9 is so", x.table(0, 1, 1, 1, 9), NO);
        DUE.is("no act", x.count(3), 0);
        DUE.is("it was 9", x.table(1, 0, 1, 1, 0), 9);
        DUE.is("now it is so", x.table(0, 1, 1, 1, 0), NO);
        DUE.is("it was 0", x.table(0, 1, 1, 1, 9), 0);
        DUE.is("acts", x.count(3), 2);
    }

    private static void tablesOfNewTies() {
        DUE.sentence("NODES are TIED by noughts, if they are not;");
        CostChoices x = new CostChoices();
        DUE.is("table(4, 0, 2, 1, 9)", x.table(4, 0, 2, 1, 9), 0);
        DUE.is("ties", x.count(1), 6);
        for (int i = 0; i < 3; i++) {
            for (int j = 0; j < 3; j++) {
                DUE.is("tie", x.tie(0, 4, i, j), i == 1 && j == 2 ? NEVER : 0);
            }
        }
        DUE.is("ties of 0", x.node(0, 2), 3);
        DUE.is("ties of 4", x.node(4, 2), 2);
        DUE.is("one act", x.count(3), 1);
        DUE.is("undone by one", x.undo(), 0);
        DUE.is("not tied", x.tie(0, 4, 0, 0), NONE);
    }

    private static void noughtsTie() {
        DUE.sentence("TIED ahead of it, if they are not: what it was (9: NEVER).");
        CostChoices x = new CostChoices();
        DUE.is("a nought ties them", x.table(1, 3, 0, 0, 0), 0);
        DUE.is("ties", x.count(1), 6);
        DUE.is("tie", x.tie(3, 1, 1, 1), 0);
        DUE.is("now it is so", x.table(1, 3, 0, 0, 0), NO);
        DUE.is("one act", x.count(3), 1);
        DUE.is("undo", x.undo(), 0);
        DUE.is("tie", x.tie(3, 1, 1, 1), NONE);
    }

    private static void tiedAnewByNoughts() {
        CostChoices x = new CostChoices();
        x.loose(0, 1);
        DUE.is("tied anew", x.table(0, 1, 0, 0, 2), 0);
        DUE.row("by noughts", i -> x.tie(0, 1, i, 1), 0, 0, 0);
        DUE.row("by noughts", i -> x.tie(0, 1, i, 0), 2, 0, 0);
        x.loose(0, 1);
        DUE.is("what was 9 once", x.table(1, 0, 0, 1, 9), 0);
        DUE.is("what was 2 once", x.tie(0, 1, 0, 0), 0);
    }

    private static void tablesWhenFull() {
        DUE.sentence("FULL: they are not TIED, there are 12.");
        CostChoices x = Due.laid(Texts.EIGHT_NODES + Texts.TWELVE_TIES);
        DUE.is("full", x.table(1, 7, 0, 0, 2), FULL);
        DUE.is("full for a nought too", x.table(7, 1, 0, 0, 0), FULL);
        DUE.is("BAD is first", x.table(1, 7, 0, 0, 10), BAD);
        DUE.is("BAD is first", x.table(1, 7, 1, 0, 2), BAD);
        DUE.is("not tied still", x.tie(1, 7, 0, 0), NONE);
        DUE.is("ties", x.count(1), 12);
        DUE.is("no act", x.count(3), 0);
        DUE.is("those that are tied", x.table(1, 6, 0, 0, 2), 1);
        DUE.is("it is so", x.table(1, 6, 0, 0, 2), NO);
        x.loose(0, 1);
        DUE.is("room for one", x.table(1, 7, 0, 0, 2), 0);
        DUE.is("full", x.table(0, 1, 0, 0, 2), FULL);
        CostChoices y = Due.laid(Texts.EIGHT_NODES + Texts.ELEVEN_TIES);
        DUE.is("the twelfth", y.table(6, 7, 0, 0, 3), 0);
        DUE.is("ties", y.count(1), 12);
        DUE.is("the thirteenth", y.table(5, 7, 0, 0, 3), FULL);
        DUE.is("undo", y.undo(), 0);
        DUE.is("another twelfth", y.table(5, 7, 0, 0, 3), 0);
    }

    private static void loosing() {
        DUE.sentence("LOOSED: how many TIES are left. BAD; NO: they are not TIED.");
        CostChoices x = new CostChoices();
        DUE.is("loose(2, 0)", x.loose(2, 0), 4);
        DUE.is("tie", x.tie(0, 2, 0, 0), NONE);
        DUE.is("loose(0, 2)", x.loose(0, 2), NO);
        DUE.is("loose(0, 1)", x.loose(0, 1), 3);
        DUE.is("loose(1, 2)", x.loose(1, 2), 2);
        DUE.is("loose(2, 3)", x.loose(2, 3), 1);
        DUE.is("loose(3, 4)", x.loose(3, 4), 0);
        DUE.row("ties", u -> x.node(u, 2), 0, 0, 0, 0, 0);
        DUE.is("acts", x.count(3), 5);
        DUE.is("none is left", x.loose(3, 4), NO);
        CostChoices y = Due.laid(Texts.EIGHT_NODES + Texts.TWELVE_TIES);
        DUE.is("of twelve", y.loose(7, 0), 11);
    }

    private static void loosingNone() {
        CostChoices x = new CostChoices();
        DUE.is("loose(0, 4)", x.loose(0, 4), NO);
        DUE.each("none is tied to itself", u -> x.loose(u, u), NO, 0, 1, 4);
        DUE.each("loose(0, v)", v -> x.loose(0, v), BAD, 5, 8, 32, 33, -1, Integer.MAX_VALUE, Integer.MIN_VALUE);
        DUE.each("loose(u, 0)", u -> x.loose(u, 0), BAD, 5, 8, 32, 33, -1, Integer.MAX_VALUE, Integer.MIN_VALUE);
        DUE.each("loose(u, u)", u -> x.loose(u, u), BAD, 5, 8, -1);
        DUE.is("ties", x.count(1), 5);
        DUE.is("no act", x.count(3), 0);
    }

    private static void pins() {
        DUE.sentence("PINNED to a CHOICE (i = -1: UNPINNED): to which it was (NONE). BAD; NO: it is so.");
        CostChoices x = new CostChoices();
        DUE.is("pin(0, 2)", x.pin(0, 2), NONE);
        DUE.is("pin(0, 1)", x.pin(0, 1), 2);
        DUE.is("pin(0, 0)", x.pin(0, 0), 1);
        DUE.is("count(2)", x.count(2), 1);
        DUE.is("pin(1, 0)", x.pin(1, 0), NONE);
        DUE.is("count(2)", x.count(2), 2);
        DUE.is("pin(0, -1)", x.pin(0, -1), 0);
        DUE.is("node(0, 3)", x.node(0, 3), NONE);
        DUE.is("count(2)", x.count(2), 1);
        DUE.is("pin(0, 0)", x.pin(0, 0), NONE);
        DUE.is("acts", x.count(3), 6);
    }

    private static void pinsAtTheLimits() {
        CostChoices x = new CostChoices();
        DUE.each("pin(0, i)", i -> x.pin(0, i), BAD, 3, 4, -2, -3, -4, Integer.MAX_VALUE, Integer.MIN_VALUE);
        DUE.each("pin(1, i)", i -> x.pin(1, i), BAD, 2, 3, -2);
        DUE.each("pin(u, 0)", u -> x.pin(u, 0), BAD, 5, 8, -1, Integer.MAX_VALUE, Integer.MIN_VALUE);
        DUE.each("pin(u, -1)", u -> x.pin(u, -1), BAD, 5, 8, -1, Integer.MAX_VALUE, Integer.MIN_VALUE);
        DUE.is("none is pinned", x.count(2), 0);
        DUE.is("no act", x.count(3), 0);
        CostChoices y = Due.laid(Texts.MOST_PLANS);
        for (int u = 0; u < 8; u++) {
            DUE.is("pin to the last", y.pin(u, 3), NONE);
            DUE.is("all may be pinned", y.count(2), u + 1);
        }
        DUE.is("of one choice", Due.laid("n0,1;").pin(0, 0), NONE);
        DUE.is("of one choice", Due.laid("n0,1;").pin(0, 1), BAD);
    }

    private static void pinsThatAreSo() {
        CostChoices x = new CostChoices();
        DUE.is("not pinned", x.pin(0, -1), NO);
        DUE.is("no act", x.count(3), 0);
        x.pin(0, 0);
        DUE.is("pinned to 0", x.pin(0, 0), NO);
        x.pin(0, 2);
        DUE.is("pinned to 2", x.pin(0, 2), NO);
        x.pin(0, -1);
        DUE.is("unpinned", x.pin(0, -1), NO);
        DUE.is("acts", x.count(3), 3);
    }

    private static void renames() {
        DUE.sentence("Of another KIND: which it was. BAD; NO: it is.");
        CostChoices x = new CostChoices();
        DUE.is("rename(4, 0)", x.rename(4, 0), 3);
        DUE.row("PLAIN", i -> x.cost(4, i), 9, 10, 1);
        DUE.is("rename(4, 2)", x.rename(4, 2), 0);
        DUE.row("TIMID", i -> x.cost(4, i), 9, 11, 3);
        DUE.is("rename(4, 1)", x.rename(4, 1), 2);
        DUE.row("HEAVY", i -> x.cost(4, i), 18, 20, 2);
        DUE.is("rename(4, 3)", x.rename(4, 3), 1);
        DUE.is("rename(0, 3)", x.rename(0, 3), 0);
        DUE.row("STERN", i -> x.cost(0, i), 10, 4, 14);
        DUE.is("acts", x.count(3), 5);
    }

    private static void renamesAtTheLimits() {
        CostChoices x = new CostChoices();
        DUE.is("PLAIN it is", x.rename(0, 0), NO);
        DUE.is("HEAVY it is", x.rename(1, 1), NO);
        DUE.is("TIMID it is", x.rename(2, 2), NO);
        DUE.is("STERN it is", x.rename(4, 3), NO);
        DUE.each("rename(0, k)", k -> x.rename(0, k), BAD, 4, 5, -1, 256, Integer.MAX_VALUE, Integer.MIN_VALUE);
        DUE.each("rename(u, 0)", u -> x.rename(u, 0), BAD, 5, 8, -1, Integer.MAX_VALUE, Integer.MIN_VALUE);
        DUE.row("kinds stay", u -> x.node(u, 0), 0, 1, 2, 0, 3);
        DUE.is("no act", x.count(3), 0);
    }

    private static void undoing() {
        DUE.sentence("UNDONE: how many more can be. NO.");
        CostChoices x = new CostChoices();
        DUE.is("undo of nothing", x.undo(), NO);
        x.price(0, 0, 1);
        x.price(0, 0, 2);
        DUE.is("undo", x.undo(), 1);
        DUE.is("cost", x.cost(0, 0), 1);
        x.price(0, 0, 3);
        DUE.is("what was undone is gone", x.undo(), 1);
        DUE.is("cost", x.cost(0, 0), 1);
        DUE.is("undo", x.undo(), 0);
        DUE.is("cost", x.cost(0, 0), 5);
        DUE.is("undo", x.undo(), NO);
        DUE.is("cost", x.cost(0, 0), 5);
        DUE.is("count(3)", x.count(3), 0);
    }

    private static void undoOfEach() {
        DUE.sentence("OWN costs, TABLES are CHANGED; NODES are TIED by noughts, if they are not; LOOSED; "
                + "PINNED, UNPINNED; of another KIND. UNDONE is the latest of these");
        CostChoices x = new CostChoices();
        x.loose(0, 1);
        x.undo();
        DUE.row("loose", i -> x.tie(0, 1, i, 0), 0, NEVER, 0);
        DUE.row("loose", i -> x.tie(0, 1, i, 1), 1, 2, 0);
        x.table(1, 4, 0, 0, 5);
        x.undo();
        DUE.is("table that tied", x.tie(1, 4, 0, 0), NONE);
        x.table(0, 1, 1, 0, 5);
        x.undo();
        DUE.is("table", x.tie(0, 1, 1, 0), NEVER);
        x.pin(0, 1);
        x.pin(0, 2);
        x.undo();
        DUE.is("pin", x.node(0, 3), 1);
        x.pin(0, -1);
        x.undo();
        DUE.is("unpin", x.node(0, 3), 1);
        x.undo();
        DUE.is("pin", x.node(0, 3), NONE);
        x.rename(0, 3);
        x.undo();
        DUE.is("rename", x.node(0, 0), 0);
        DUE.is("answers follow", x.least(0), 22);
        x.price(0, 0, 50);
        DUE.is("answers follow", x.least(0), 24);
        x.undo();
        DUE.is("price", x.cost(0, 0), 5);
        DUE.is("answers follow", x.least(0), 22);
        DUE.is("answers follow", x.plan(0), 22);
        DUE.is("all are undone", x.count(3), 0);
    }

    private static void actsOfNoEffect() {
        CostChoices x = new CostChoices();
        x.price(0, 0, 6);
        x.write('n');
        x.wipe();
        x.fault();
        x.lay();
        x.keep();
        x.with(0, 0);
        x.without(0, 1);
        x.price(0, 0, 6);
        x.price(0, 0, 100);
        x.table(0, 1, 0, 0, 0);
        x.table(0, 0, 0, 0, 0);
        x.loose(0, 3);
        x.pin(0, -1);
        x.pin(0, 3);
        x.rename(0, 0);
        x.rename(0, 4);
        DUE.is("the latest is the price", x.undo(), 0);
        DUE.is("cost", x.cost(0, 0), 5);
    }

    private static void undoOfTheLastEight() {
        DUE.sentence("(the last 8 can be).");
        CostChoices x = new CostChoices();
        for (int c = 10; c < 21; c++) {
            x.price(0, 0, c);
            DUE.is("count(3)", x.count(3), Math.min(c - 9, 8));
        }
        for (int left = 7; left >= 0; left--) {
            DUE.is("undo", x.undo(), left);
            DUE.is("cost", x.cost(0, 0), 12 + left);
        }
        DUE.is("undo", x.undo(), NO);
        DUE.is("cost", x.cost(0, 0), 12);
    }

    private static void undoOfEightAndOfNine() {
        CostChoices eight = new CostChoices();
        CostChoices nine = new CostChoices();
        nine.pin(4, 2);
        for (int c = 10; c < 18; c++) {
            eight.price(0, 0, c);
            nine.price(0, 0, c);
        }
        for (int left = 7; left >= 0; left--) {
            DUE.is("undo of eight", eight.undo(), left);
            DUE.is("undo of nine", nine.undo(), left);
        }
        DUE.is("undo of eight", eight.undo(), NO);
        DUE.is("undo of nine", nine.undo(), NO);
        DUE.is("all of the eight", eight.cost(0, 0), 5);
        DUE.is("the last eight of the nine", nine.cost(0, 0), 5);
        DUE.is("but not the first", nine.node(4, 3), 2);
        nine.pin(4, 1);
        DUE.is("room again", nine.undo(), 0);
        DUE.is("the first stays", nine.node(4, 3), 2);
    }
}
