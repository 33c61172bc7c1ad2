/** Promises 1 to 5: a new object, write, wipe, fault, lay. */
public final class TextTest {
    private static final Due DUE = new Due("TextTest");
    private static final String NODES8 = "n0,1;n0,1;n0,1;n0,1;n0,1;n0,1;n0,1;n0,1;";
    private static final String TIES12 = "e0,1,1;e0,2,1;e0,3,1;e0,4,1;e0,5,1;e0,6,1;e0,7,1;"
            + "e1,2,1;e1,3,1;e1,4,1;e1,5,1;e1,6,1;";

    public static void main(String[] args) {
        newObject();
        writing();
        wiping();
        faultsOfNodes();
        faultsOfTies();
        noFaults();
        laying();
        DUE.end();
    }

    private static void newObject() {
        CostChoices x = new CostChoices();
        DUE.row("count", x::count, 5, 5, 0, 0, 0, 0, CostChoices.BAD);
        DUE.row("kind", u -> x.node(u, 0), 0, 1, 2, 0, 3, CostChoices.BAD);
        DUE.row("choices", u -> x.node(u, 1), 3, 2, 2, 2, 3);
        DUE.row("ties", u -> x.node(u, 2), 2, 2, 3, 2, 1);
        DUE.row("cost of 0", i -> x.cost(0, i), 5, 2, 7, CostChoices.BAD);
        DUE.row("cost of 3", i -> x.cost(3, i), 6, 6, CostChoices.BAD);
        DUE.row("tie 0, 2 at 2", j -> x.tie(0, 2, 2, j), 1, CostChoices.NEVER, CostChoices.BAD);
        DUE.row("tie 3, 4 at 1", j -> x.tie(3, 4, 1, j), 3, 0, 1);
        DUE.is("fault of no text", x.fault(), CostChoices.NONE);
        DUE.is("lay of no text", x.lay(), CostChoices.NO);
        DUE.is("undo", x.undo(), CostChoices.NO);
        DUE.is("back", x.back(), CostChoices.NO);
    }

    private static void writing() {
        CostChoices x = new CostChoices();
        DUE.is("write(31)", x.write(31), CostChoices.BAD);
        DUE.is("write(127)", x.write(127), CostChoices.BAD);
        DUE.is("write(-1)", x.write(-1), CostChoices.BAD);
        DUE.is("write(max)", x.write(Integer.MAX_VALUE), CostChoices.BAD);
        DUE.is("write(min)", x.write(Integer.MIN_VALUE), CostChoices.BAD);
        DUE.is("write(32)", x.write(32), 1);
        DUE.is("write(126)", x.write(126), 2);
        DUE.is("count(5)", x.count(5), 2);
        for (int k = 3; k <= 200; k++) {
            DUE.is("write " + k, x.write('n'), k);
        }
        DUE.is("write 201", x.write('n'), CostChoices.FULL);
        DUE.is("write of none, full", x.write(127), CostChoices.BAD);
        DUE.is("count(5)", x.count(5), 200);
    }

    private static void wiping() {
        CostChoices x = Due.written("n0,1");
        DUE.is("wipe", x.wipe(), 4);
        DUE.is("wipe again", x.wipe(), 0);
        DUE.is("count(5)", x.count(5), 0);
        DUE.is("fault", x.fault(), CostChoices.NONE);
        DUE.is("nodes", x.count(0), 5);
        DUE.is("write", x.write('n'), 1);
    }

    private static void faultAt(String text, int place) {
        CostChoices x = Due.written(text);
        DUE.is("fault of " + text, x.fault(), place);
        DUE.is("lay of " + text, x.lay(), CostChoices.NO);
        DUE.is("nodes after " + text, x.count(0), 5);
        DUE.is("letters after " + text, x.count(5), text.length());
    }

    private static void faultsOfNodes() {
        String[] wrong = {"n", "n0", "n0,", "n0,1", "n;", "n0;", "n0,;", "n,1;", "n4,1;", "n-1,1;", "n10,1;",
            "n0,1,2,3,4,5;", "n0,1,;", "n0,100;", "n0,1,001;", "n000,1;", "n 0,1;", "n0, 1;", "n0 ,1;",
            "n0,1 ;", "n0.1;", "N0,1;", "x0,1;", " n0,1;", ";", ",", "0", "n0,1,,2;", "n0:1;", "n0,/;", "n0,:;"};
        for (String text : wrong) {
            faultAt(text, 0);
            faultAt("n0,7;" + text, 5);
            faultAt("n3,17,2;" + text + "n0,1;", 8);
        }
        faultAt(NODES8 + "n0,1;", NODES8.length());
        faultAt("n0,1;n9,1;n8,1;", 5);
    }

    private static void faultsOfTies() {
        String two = "n0,1,2;n0,1,2,3;";
        String[] wrong = {"e", "e0", "e0,", "e0,1", "e0,1,", "e0,1,012345", "e0,1;", "e0,1,;", "e0,1,01234;",
            "e0,1,0123456;", "e1,0,012345;", "e0,0,0123;", "e1,1,012345678;", "e0,2,012345;", "e2,3,0123;", "e0,2,;", "e0,2,0123;", "e0,8,0123;",
            "e0,1,01234a;", "e0,1,012,345;", "e,1,012345;", "e0,,012345;", "e000,1,012345;", "e0,001,012345;",
            "e0,1 ,012345;", "e0,1,012345,;", "e-1,1,012345;", "e0,99,012345;", "e0.1,012345;", "E0,1,012345;"};
        for (String text : wrong) {
            faultAt(two + text, two.length());
        }
        faultAt(two + "e0,1,012345;e0,1,012345;", two.length() + 12);
        faultAt("e0,1,1;n0,1;n0,1;", 0);
        faultAt("n0,1;e0,1,1;n0,1;", 5);
        faultAt(NODES8 + TIES12 + "e1,7,1;", NODES8.length() + TIES12.length());
    }

    private static void noFault(String text, int nodes, int ties) {
        CostChoices x = Due.written(text);
        DUE.is("fault of " + text, x.fault(), CostChoices.NONE);
        DUE.is("lay of " + text, x.lay(), nodes);
        DUE.is("nodes of " + text, x.count(0), nodes);
        DUE.is("ties of " + text, x.count(1), ties);
    }

    private static void noFaults() {
        noFault("n0,0;", 1, 0);
        noFault("n3,99,98,0,00;", 1, 0);
        noFault("n03,01;n0,1;e00,01,9;", 2, 1);
        noFault("n0,1;n0,1;e0,1,1;n0,1;e1,2,1;e0,2,1;", 3, 3);
        noFault(NODES8 + TIES12, 8, 12);
        noFault("n0,1,2,3,4;n0,1,2,3,4;e0,1,0123456789012345;", 2, 1);
    }

    private static void laying() {
        CostChoices x = new CostChoices();
        x.pin(0, 1);
        x.pin(1, 1);
        x.keep();
        Due.writeOn(x, "n1,4,99;n2,3,2,99;e0,1,012349;");
        DUE.is("lay", x.lay(), 2);
        DUE.row("count", x::count, 2, 1, 0, 0, 0, 30);
        DUE.row("pinned", u -> x.node(u, 3), CostChoices.NONE, CostChoices.NONE, CostChoices.BAD);
        DUE.is("undo", x.undo(), CostChoices.NO);
        DUE.is("back", x.back(), CostChoices.NO);
        DUE.row("cost of 0", i -> x.cost(0, i), 8, CostChoices.NEVER, CostChoices.BAD);
        DUE.row("cost of 1", i -> x.cost(1, i), 3, 3, CostChoices.NEVER, CostChoices.BAD);
        DUE.row("tie at 0", j -> x.tie(0, 1, 0, j), 0, 1, 2, CostChoices.BAD);
        DUE.row("tie at 1", j -> x.tie(0, 1, 1, j), 3, 4, CostChoices.NEVER, CostChoices.BAD);
        DUE.is("lay again", x.lay(), 2);
        refusedLay();
    }

    private static void refusedLay() {
        CostChoices x = new CostChoices();
        x.pin(0, 1);
        x.keep();
        Due.writeOn(x, "n0,1;n");
        DUE.is("lay with a fault", x.lay(), CostChoices.NO);
        DUE.row("count", x::count, 5, 5, 1, 1, 1, 6);
        x.wipe();
        DUE.is("lay of no text", x.lay(), CostChoices.NO);
        DUE.row("count", x::count, 5, 5, 1, 1, 1, 0);
        DUE.is("cost", x.cost(0, 0), CostChoices.NEVER);
    }
}
