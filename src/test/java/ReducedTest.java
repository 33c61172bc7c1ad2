/** Promises 15 to 17: turn, reduced, plan; and how a graph is reduced. */
public final class ReducedTest {
    private static final Due DUE = new Due("ReducedTest");
    private static final int NEVER = CostChoices.NEVER, BAD = CostChoices.BAD, NONE = CostChoices.NONE;
    /** Four nodes, each tied to each; what they cost is put ahead. */
    private static final String FOUR_TIED = "e0,1,0000;e0,2,0000;e1,2,0000;e0,3,0000;e1,3,0000;e2,3,0000;";

    public static void main(String[] args) {
        turns();
        reducedChoices();
        plans();
        aside();
        orderByTies();
        orderByChoices();
        orderByNumber();
        firstOrLast();
        eightNodesTwelveTies();
        ruleZero();
        ruleOne();
        ruleTwo();
        ruleTwoTies();
        ruleTwoOnTied();
        ruleTwoOfFourChoices();
        ruleThree();
        ruleThreeLooksAcross();
        ruleThreeTakesTheFirst();
        ruleThreeOfFourChoices();
        ruleThreeOfAPinned();
        ruleThreeTwice();
        readBackwards();
        asTheyWereThen();
        shown();
        whatCanNotBe();
        answersFollowTheActs();
        DUE.end();
    }

    private static void order(CostChoices x, int... nodes) {
        DUE.row("turn(k, 0)", k -> x.turn(k, 0), nodes);
        DUE.is("turn(n, 0)", x.turn(nodes.length, 0), BAD);
    }

    private static void rules(CostChoices x, int... rules) {
        DUE.row("turn(k, 1)", k -> x.turn(k, 1), rules);
        DUE.is("turn(n, 1)", x.turn(rules.length, 1), BAD);
    }

    private static void taken(CostChoices x, int... choices) {
        DUE.row("reduced", x::reduced, choices);
        DUE.is("reduced(n)", x.reduced(choices.length), BAD);
    }

    private static void cost(CostChoices x, int sum, int shown) {
        DUE.is("plan(0)", x.plan(0), sum);
        DUE.is("plan(1)", x.plan(1), shown);
    }

    private static void turns() {
        DUE.sentence("Of the k-th that is REDUCED (0 first): which NODE (what = 0), by which RULE (1). BAD.");
        CostChoices x = new CostChoices();
        order(x, 4, 3, 1, 2, 0);
        rules(x, 1, 1, 2, 1, 0);
        DUE.each("turn(k, 0)", k -> x.turn(k, 0), BAD, -1, 5, 8, Integer.MAX_VALUE, Integer.MIN_VALUE);
        DUE.each("turn(k, 1)", k -> x.turn(k, 1), BAD, -1, 5, 8, Integer.MAX_VALUE, Integer.MIN_VALUE);
        DUE.each("turn(0, what)", what -> x.turn(0, what), BAD, -1, 2, 3, Integer.MAX_VALUE, Integer.MIN_VALUE);
        DUE.is("both wrong", x.turn(5, 2), BAD);
        CostChoices one = Due.laid("n0,4;");
        order(one, 0);
        rules(one, 0);
        CostChoices eight = Due.laid(Texts.EIGHT_NODES);
        order(eight, 0, 1, 2, 3, 4, 5, 6, 7);
        rules(eight, 0, 0, 0, 0, 0, 0, 0, 0);
    }

    private static void reducedChoices() {
        DUE.sentence("The CHOICE of a NODE in the REDUCED PLAN. BAD.");
        CostChoices x = new CostChoices();
        taken(x, 0, 1, 1, 1, 2);
        DUE.each("reduced", x::reduced, BAD, -1, 5, 8, Integer.MAX_VALUE, Integer.MIN_VALUE);
        taken(Due.laid("n0,4;"), 0);
        taken(Due.laid("n0,9,8,7,6;"), 3);
        taken(Due.laid("n0,9,8;".repeat(8)), 1, 1, 1, 1, 1, 1, 1, 1);
    }

    private static void plans() {
        DUE.sentence("What the REDUCED PLAN costs (what = 0), 1 if it is SHOWN (1). BAD.");
        CostChoices x = new CostChoices();
        cost(x, 22, 1);
        DUE.each("plan", x::plan, BAD, -1, 2, 3, Integer.MAX_VALUE, Integer.MIN_VALUE);
        cost(Due.laid(Texts.ASTRAY), 16, 0);
        DUE.sentence("A PLAN is a CHOICE for each NODE; it costs all NODES and TIES together.");
        cost(Due.laid("n1,98;".repeat(8) + Texts.TWELVE_TIES.replace(",1;", ",8;")), 8 * 196 + 12 * 8, 1);
        cost(Due.laid("n0,0;n2,0;e0,1,0;"), 0, 1);
        cost(Due.laid("n0,7;n1,8;n2,9;e0,1,5;e1,2,6;"), 7 + 16 + 9 + 5 + 6, 1);
    }

    private static void aside() {
        DUE.sentence("REDUCED are all NODES, one behind another, aside.");
        CostChoices x = Due.laid("n0,1,2;n0,3,4;n0,5,6;n0,7,8;e0,1,1234;e1,2,1234;e2,3,1234;e0,3,1234;");
        order(x, 0, 1, 2, 3);
        rules(x, 2, 2, 1, 0);
        DUE.is("no tie more", x.count(1), 4);
        DUE.is("no tie more", x.tie(1, 3, 0, 0), NONE);
        DUE.row("costs stay", u -> x.cost(u, 0), 1, 3, 5, 7);
        DUE.row("tables stay", j -> x.tie(2, 3, 1, j), 3, 4);
        DUE.is("no act", x.count(3), 0);
        order(x, 0, 1, 2, 3);
    }

    private static void orderByTies() {
        DUE.sentence("The ORDER of those that are left: by how many they are TIED to, fewest first,");
        // The one that is tied to none comes first, though it has the most choices.
        CostChoices x = Due.laid("n0,0;n0,0;n0,0,0,0,0;e0,1,0;");
        order(x, 2, 0, 1);
        rules(x, 0, 1, 0);
        // The middle of three has two at first, then one.
        CostChoices y = Due.laid("n0,0;n0,0,0;n0,0,0,0;e0,1,00;e0,2,000;");
        order(y, 1, 0, 2);
        rules(y, 1, 1, 0);
        // Those that are left alone count: 0 loses its ties one by one.
        CostChoices z = Due.laid("n0,0;n0,0;n0,0;n0,0;e0,1,0;e0,2,0;e0,3,0;");
        order(z, 1, 2, 0, 3);
        rules(z, 1, 1, 1, 0);
    }

    private static void orderByChoices() {
        DUE.sentence("then by how many CHOICES, fewest first,");
        CostChoices x = Due.laid("n0,3,2,2;n0,5;n0,4,1;n0,6;n0,0,0;");
        order(x, 1, 3, 2, 4, 0);
        rules(x, 0, 0, 0, 0, 0);
        taken(x, 1, 0, 1, 0, 0);
        cost(x, 14, 1);
        CostChoices y = Due.laid("n0,0,0,0,0;n0,0,0,0;n0,0,0;n0,0;");
        order(y, 3, 2, 1, 0);
        y.pin(0, 0);
        y.price(1, 0, 99);
        order(y, 3, 2, 1, 0);
    }

    private static void orderByNumber() {
        DUE.sentence("then by the number.");
        order(Due.laid("n0,9;n1,8;n2,7;n3,6;n0,5;n0,4;n0,3;n0,2;"), 0, 1, 2, 3, 4, 5, 6, 7);
        CostChoices ring = Due.laid("n0,0;n0,0;n0,0;e1,2,0;e0,2,0;e0,1,0;");
        order(ring, 0, 1, 2);
        rules(ring, 2, 1, 0);
    }

    private static void firstOrLast() {
        DUE.sentence("Next is the first of them, if it is TIED to 2 at most, else the last.");
        // Four, each tied to each: the one of most choices is last; of those alike the highest.
        CostChoices x = Due.laid("n0,0;n0,0,0;n0,0,0;n0,0;e0,1,00;e0,2,00;e0,3,0;e1,2,0000;e1,3,00;e2,3,00;");
        order(x, 2, 0, 3, 1);
        rules(x, 3, 2, 1, 0);
        CostChoices wheel = Due.laid("n0,0,0;n0,0,0;n0,0,0;n0,0,0;n0,0,0;"
                + "e0,1,0000;e0,2,0000;e0,3,0000;e0,4,0000;e1,2,0000;e1,3,0000;e2,4,0000;e3,4,0000;");
        // The hub is tied to four, the rim's to three: the hub is the last.
        order(wheel, 0, 1, 2, 3, 4);
        rules(wheel, 3, 2, 2, 1, 0);
        // One more, tied to two of the four: it is the first, and by rule 2.
        CostChoices y = Due.laid("n0,0;n0,0;n0,0;n0,0;n0,0,0,0,0;"
                + "e0,1,0;e0,2,0;e0,3,0;e1,2,0;e1,3,0;e2,3,0;e1,4,0000;e2,4,0000;");
        order(y, 4, 3, 0, 1, 2);
        rules(y, 2, 3, 2, 1, 0);
        y.table(0, 4, 0, 0, 0);
        // Tied to three now: of all the last is 2, which is tied to four, as 0 and 1 are.
        order(y, 2, 3, 0, 1, 4);
        rules(y, 3, 2, 2, 1, 0);
    }

    private static void eightNodesTwelveTies() {
        // A cube: each is tied to three.
        CostChoices x = Due.laid(Texts.EIGHT_NODES
                + "e0,1,1;e0,2,1;e0,4,1;e1,3,1;e1,5,1;e2,3,1;e2,6,1;e3,7,1;e4,5,1;e4,6,1;e5,7,1;e6,7,1;");
        order(x, 7, 3, 5, 6, 4, 0, 1, 2);
        rules(x, 3, 2, 2, 2, 3, 2, 1, 0);
        taken(x, 0, 0, 0, 0, 0, 0, 0, 0);
        cost(x, 20, 0);
    }

    private static void ruleZero() {
        DUE.sentence("RULE 0, of one TIED to none: it is left out.");
        CostChoices x = Due.laid("n0,9,3;n0,5,6;");
        order(x, 0, 1);
        rules(x, 0, 0);
        taken(x, 1, 0);
        cost(x, 8, 1);
    }

    private static void ruleOne() {
        DUE.sentence("RULE 1, of one TIED to one other: what each CHOICE of that one costs is more by the least of "
                + "what this one and the TIE cost with it; then it is left out.");
        CostChoices x = Due.laid("n0,0,1,4;n0,2,3;e0,1,580018;");
        order(x, 1, 0);
        rules(x, 1, 0);
        // Of 0: min(2+5, 3+8) = 7, 1 + min(2+0, 3+0) = 3, 4 + min(2+1, 3+8) = 7.
        taken(x, 1, 0);
        cost(x, 3, 1);
        x.pin(0, 2);
        order(x, 1, 0);
        taken(x, 2, 0);
        cost(x, 7, 1);
        // Each choice of 1 has one of 0 that goes with it for nothing, the first and the last too.
        CostChoices y = Due.laid("n0,0,0,0,0;n0,4,3,2,1;e0,1,0888808888088880;");
        order(y, 0, 1);
        taken(y, 3, 3);
        cost(y, 1, 1);
        CostChoices z = Due.laid("n0,0,0,0,0;n0,1,2,3,4;e0,1,0888808888088880;");
        taken(z, 0, 0);
        cost(z, 1, 1);
    }

    private static void ruleTwo() {
        DUE.sentence("RULE 2, to two others: these are TIED then, if they are not (by noughts),");
        // A ring of four: 0 ties 1 and 3 by noughts first, so that 1 has two still.
        CostChoices x = Due.laid("n0,0,0;n0,0,0;n0,0,0;n0,0,0;e0,1,0880;e1,2,8008;e2,3,0880;e0,3,0880;");
        order(x, 0, 1, 2, 3);
        rules(x, 2, 2, 1, 0);
        // 3 takes 0 of two alike, 2 takes 0, 1 the first of two alike, 0 as well.
        taken(x, 0, 0, 0, 0);
        cost(x, 8, 1);
    }

    private static void ruleTwoTies() {
        // What 1 and 3 were tied by once is not there when they are tied anew.
        CostChoices x = Due.laid("n0,0,0;n0,0,0;n0,0,0;n0,0,0;e0,1,0000;e1,2,0000;e2,3,0000;e0,3,0000;e1,3,8888;");
        rules(x, 2, 2, 1, 0);
        cost(x, 8, 1);
        x.loose(1, 3);
        rules(x, 2, 2, 1, 0);
        taken(x, 0, 0, 0, 0);
        cost(x, 0, 1);
    }

    private static void ruleTwoOnTied() {
        DUE.sentence("and each two CHOICES cost more in that TABLE by the least of what this one and both TIES cost "
                + "with these; then it is left out.");
        // 0 adds to (1, 2): (0,0): min(3, 1), (0,1): min(6, 5), (1,0): min(5, 1), (1,1): min(8, 5),
        // that makes 3, 9, 6, 6; so 1 adds 3, 6 to 2.
        CostChoices x = Due.laid("n0,0,1;n0,0,0;n0,0,0;e0,1,1300;e0,2,2504;e1,2,2451;");
        order(x, 0, 1, 2);
        rules(x, 2, 1, 0);
        taken(x, 1, 0, 0);
        cost(x, 3, 1);
        DUE.is("least(0)", x.least(0), 3);
    }

    private static void ruleTwoOfFourChoices() {
        // 0 goes with both others for nothing where these are alike, for 8 else: so 1 and 2 are alike.
        String alike = "0888808888088880;";
        String ties = "e0,1," + alike + "e0,2," + alike + "e1,2,0000000000000000;";
        CostChoices x = Due.laid("n0,0,0,0,0;n0,5,4,3,2;n0,2,3,4,5;" + ties);
        order(x, 0, 1, 2);
        rules(x, 2, 1, 0);
        // All alike cost 7; 2 takes the first of these.
        taken(x, 0, 0, 0);
        cost(x, 7, 1);
        DUE.row("least", x::least, 7, 4, 0, 12);
        x.pin(2, 3);
        taken(x, 3, 3, 3);
        cost(x, 7, 1);
        x.pin(1, 0);
        // 0 is like one of them: the first such.
        taken(x, 0, 0, 3);
        cost(x, 5 + 5 + 8, 1);
        // The pair of 6 and 7 is the last of all.
        CostChoices y = Due.laid("n0,0;".repeat(5) + "n0,0,0,0,0;n0,5,4,3,2;n0,2,3,4,5;"
                + ties.replace("e1,2", "e6,7").replace("e0,1", "e5,6").replace("e0,2", "e5,7"));
        order(y, 0, 1, 2, 3, 4, 5, 6, 7);
        rules(y, 0, 0, 0, 0, 0, 2, 1, 0);
        taken(y, 0, 0, 0, 0, 0, 0, 0, 0);
        cost(y, 7, 1);
    }

    private static void ruleThree() {
        DUE.sentence("RULE 3, to more: it takes the CHOICE (the first) at which what it costs, and for each NODE it is "
                + "TIED to the least of what that one and the TIE cost with it, are least together;");
        CostChoices x = Due.laid(Texts.ASTRAY);
        order(x, 3, 0, 1, 2);
        rules(x, 3, 2, 1, 0);
        // 3 takes 0, as it looks free there (3 at its 1); the others are led astray by it.
        taken(x, 1, 0, 0, 0);
        cost(x, 16, 0);
        DUE.is("least(0)", x.least(0), 3);
    }

    private static void ruleThreeLooksAcross() {
        // What 0 costs counts: 3 sees min(9+0, 0+5) at its 0, min(9+5, 0+0) at its 1.
        CostChoices x = Due.laid("n0,9,0;n0,0,0;n0,0,0;n0,0,0;" + FOUR_TIED.replace("e0,3,0000", "e0,3,0550"));
        order(x, 3, 0, 1, 2);
        taken(x, 1, 0, 0, 1);
        cost(x, 0, 0);
        // What it costs itself counts.
        CostChoices y = Due.laid("n0,0,0;n0,0,0;n0,0,0;n0,5,4;" + FOUR_TIED);
        taken(y, 0, 0, 0, 1);
        cost(y, 4, 0);
    }

    private static void ruleThreeTakesTheFirst() {
        CostChoices x = Due.laid("n0,0,0;n0,0,0;n0,0,0;n0,4,3,3;" + FOUR_TIED.replace(",3,0000", ",3,000000"));
        order(x, 3, 0, 1, 2);
        taken(x, 0, 0, 0, 1);
        cost(x, 3, 0);
        DUE.sentence("what each CHOICE of those costs is more by the TIE with it; then it is left out.");
        // 3 takes 0; then 0 and 1 cost 6, 0, as their ties are 6 at 0, and 2 costs 0, 6.
        CostChoices y = Due.laid("n0,0,0;n0,0,0;n0,0,0;n0,0,0;" + FOUR_TIED.replace("e0,3,0000", "e0,3,6006")
                .replace("e1,3,0000", "e1,3,6006").replace("e2,3,0000", "e2,3,0660"));
        taken(y, 1, 1, 0, 0);
        cost(y, 0, 0);
    }

    private static void ruleThreeOfFourChoices() {
        // The last of four tied each to each; the choices of one are four, of the others two.
        CostChoices x = Due.laid("n0,0,0;n0,0,0;n0,3,2,1,0;n0,2,1,1,0;e0,1,0000;e0,2,00000000;e1,2,00000000;"
                + "e0,3,88808880;e1,3,88808880;e2,3,0000000000008888;");
        order(x, 3, 0, 1, 2);
        // 3 sees 2+8+8+0, 1+8+8+0, 1+8+8+0, 0+0+0+1.
        taken(x, 0, 0, 2, 3);
        cost(x, 1, 0);
        x.pin(3, 1);
        taken(x, 0, 0, 2, 1);
        cost(x, 1 + 8 + 8 + 1, 0);
        // Behind the four choices of 0 nothing is added to 1, which takes 3 ahead of 5.
        CostChoices y = Due.laid("n0,0,0,0,0;n0,0,0;n0,0,0;n0,0,0,0,0;e0,1,00000000;e0,2,00000000;e1,2,0000;"
                + "e0,3,0000000000000000;e1,3,33335555;e2,3,00000000;");
        order(y, 3, 1, 2, 0);
        taken(y, 0, 0, 0, 0);
        cost(y, 3, 0);
    }

    private static void ruleThreeOfAPinned() {
        CostChoices x = Due.laid(Texts.ASTRAY);
        x.pin(3, 1);
        order(x, 3, 0, 1, 2);
        taken(x, 1, 1, 0, 1);
        cost(x, 3, 0);
    }

    private static void ruleThreeTwice() {
        CostChoices x = Due.laid("n0,0;n0,0;n0,0;n0,0;n0,0;"
                + "e0,1,1;e0,2,1;e0,3,1;e0,4,1;e1,2,1;e1,3,1;e1,4,1;e2,3,1;e2,4,1;e3,4,1;");
        order(x, 4, 3, 0, 1, 2);
        rules(x, 3, 3, 2, 1, 0);
        cost(x, 10, 0);
        // 0 has the most choices; it is left out first and counts no more.
        CostChoices y = Due.laid("n0,1,0;n0,0;n0,0;n0,0;n0,0;"
                + "e0,1,11;e0,2,11;e0,3,11;e0,4,11;e1,2,1;e1,3,1;e1,4,1;e2,3,1;e2,4,1;e3,4,1;");
        order(y, 0, 4, 1, 2, 3);
        rules(y, 3, 3, 2, 1, 0);
        taken(y, 1, 0, 0, 0, 0);
        cost(y, 10, 0);
    }

    private static void readBackwards() {
        DUE.sentence("The REDUCED PLAN: backwards, the one REDUCED last first, each takes (by RULE 3 it has taken) "
                + "the first CHOICE at which what it costs, and the TIES to those TIED to it when it was REDUCED,");
        // 0 is reduced first and follows 1: alone it would take its 1.
        CostChoices x = Due.laid("n0,2,0;n0,0,9;e0,1,0080;");
        order(x, 0, 1);
        taken(x, 0, 0);
        cost(x, 2, 1);
        // Of choices alike the first, at each node.
        CostChoices y = Due.laid("n0,1,0,0;n0,1,1;n0,5,4,4,4;e0,1,000000;");
        taken(y, 1, 0, 1);
        cost(y, 5, 1);
        // By rule 3 it has taken 0, though 1 would be better when all the others have taken theirs.
        CostChoices z = Due.laid(Texts.ASTRAY);
        DUE.is("reduced(3)", z.reduced(3), 0);
    }

    private static void asTheyWereThen() {
        DUE.sentence("all as they were then, are least together.");
        // 1 costs 0 + 5, 2 + 1 when it is reduced: it takes 1, though its 0 is cheaper by itself.
        CostChoices x = Due.laid("n0,0,0;n0,0,2;e0,1,5162;");
        order(x, 0, 1);
        taken(x, 0, 1);
        cost(x, 3, 1);
        // The tie of 1 and 2 is 8, 8, 1, 1 when 1 is reduced, for 0 has added 8 at its 0.
        CostChoices y = Due.laid("n0,0,0;n0,0,0;n0,0,0;e0,1,8080;e0,2,0000;e1,2,0011;");
        order(y, 0, 1, 2);
        taken(y, 0, 1, 0);
        cost(y, 1, 1);
    }

    private static void shown() {
        DUE.sentence("It is SHOWN to be least, if RULE 3 was not used.");
        cost(Due.laid("n0,0;n0,0;n0,0;e0,1,0;e0,2,0;e1,2,0;"), 0, 1);
        // It is the least, but is not shown to be.
        CostChoices x = Due.laid("n0,0,0;n0,0,0;n0,0,0;n0,0,0;" + FOUR_TIED);
        cost(x, 0, 0);
        DUE.is("least(0)", x.least(0), 0);
        x.loose(0, 3);
        cost(x, 0, 1);
        x.undo();
        cost(x, 0, 0);
    }

    private static void whatCanNotBe() {
        DUE.sentence("whatever is as much or more together is NEVER, just that.");
        CostChoices x = Due.laid("n0,99,99;n0,1,2;e0,1,9999;");
        order(x, 0, 1);
        taken(x, 0, 0);
        cost(x, NEVER, 1);
        // 0 at its 0 costs NEVER and at its 1 the tie does: both are NEVER, so the first is taken.
        CostChoices y = Due.laid("n0,99,5;n0,3,2;e0,1,0099;");
        taken(y, 0, 0);
        cost(y, NEVER, 1);
        CostChoices z = Due.laid("n0,99,5;n0,3,2;e0,1,0098;");
        taken(z, 1, 1);
        cost(z, 15, 1);
        // Twice NEVER at 0 is no more than once at 1.
        CostChoices twice = Due.laid("n0,99,99;n0,0;e0,1,90;");
        taken(twice, 0, 0);
        cost(twice, NEVER, 1);
        // The same where it guesses: of 3 all choices look like NEVER.
        CostChoices guess = Due.laid("n0,0;n0,0;n0,0;n0,99,5;e0,1,0;e0,2,0;e1,2,0;e0,3,99;e1,3,90;e2,3,90;");
        order(guess, 3, 0, 1, 2);
        taken(guess, 0, 0, 0, 0);
        cost(guess, NEVER, 0);
        // The guess leads to NEVER, where there is a plan for 3.
        CostChoices astray = Due.laid(Texts.ASTRAY.replace('8', '9'));
        cost(astray, NEVER, 0);
        DUE.is("least(0)", astray.least(0), 3);
    }

    private static void answersFollowTheActs() {
        CostChoices x = new CostChoices();
        order(x, 4, 3, 1, 2, 0);
        x.loose(0, 1);
        order(x, 1, 0, 2, 3, 4);
        x.undo();
        order(x, 4, 3, 1, 2, 0);
        x.keep();
        x.pin(4, 0);
        DUE.is("reduced(4)", x.reduced(4), 0);
        DUE.is("plan(0)", x.plan(0), 39);
        x.back();
        DUE.is("reduced(4)", x.reduced(4), 2);
        Due.writeOn(x, "n0,7,3;");
        x.lay();
        order(x, 0);
        taken(x, 1);
        cost(x, 3, 1);
    }
}
