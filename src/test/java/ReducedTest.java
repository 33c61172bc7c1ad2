/** Promises 15 to 17: turn, reduced, plan. */
public final class ReducedTest {
    private static final Due DUE = new Due("ReducedTest");
    private static final int NEVER = CostChoices.NEVER, BAD = CostChoices.BAD;

    public static void main(String[] args) {
        wrongInputs();
        theFirstGraph();
        orderOfThoseAlone();
        ruleOne();
        ruleTwo();
        ruleTwoOnTied();
        ruleThree();
        ruleThreeTakesTheLast();
        whatCanNotBe();
        answersFollowTheActs();
        DUE.end();
    }

    private static void order(CostChoices x, int... nodes) {
        DUE.row("turn(k, 0)", k -> x.turn(k, 0), nodes);
        DUE.is("turn(n, 0)", x.turn(nodes.length, 0), BAD);
    }

    private static void rules(CostChoices x, int... rules) {
        DUE.row("turn(k, 1)", k -> x.turn(k, 1), rules);
        DUE.is("turn(n, 1)", x.turn(rules.length, 1), BAD);
    }

    private static void taken(CostChoices x, int... choices) {
        DUE.row("reduced", x::reduced, choices);
        DUE.is("reduced(n)", x.reduced(choices.length), BAD);
    }

    private static void cost(CostChoices x, int sum, int shown) {
        DUE.is("plan(0)", x.plan(0), sum);
        DUE.is("plan(1)", x.plan(1), shown);
    }

    private static void wrongInputs() {
        CostChoices x = new CostChoices();
        DUE.is("turn(-1, 0)", x.turn(-1, 0), BAD);
        DUE.is("turn(5, 0)", x.turn(5, 0), BAD);
        DUE.is("turn(0, 2)", x.turn(0, 2), BAD);
        DUE.is("turn(0, -1)", x.turn(0, -1), BAD);
        DUE.is("turn(max, 1)", x.turn(Integer.MAX_VALUE, 1), BAD);
        DUE.is("reduced(-1)", x.reduced(-1), BAD);
        DUE.is("reduced(5)", x.reduced(5), BAD);
        DUE.is("plan(-1)", x.plan(-1), BAD);
        DUE.is("plan(2)", x.plan(2), BAD);
    }

    private static void theFirstGraph() {
        CostChoices x = new CostChoices();
        order(x, 4, 3, 1, 2, 0);
        rules(x, 1, 1, 2, 1, 0);
        taken(x, 0, 1, 1, 1, 2);
        cost(x, 22, 1);
    }

    private static void orderOfThoseAlone() {
        CostChoices x = Due.laid("n0,3,2,2;n0,5;n0,4,1;n0,6;n0,0,0;");
        order(x, 1, 3, 2, 4, 0);
        rules(x, 0, 0, 0, 0, 0);
        taken(x, 1, 0, 1, 0, 0);
        cost(x, 14, 1);
    }

    private static void ruleOne() {
        // Node 1 has fewer choices, but both are tied to one; a pin leaves the number of choices.
        CostChoices x = Due.laid("n0,0,1,4;n0,2,3;e0,1,580018;");
        order(x, 1, 0);
        rules(x, 1, 0);
        // Of 0: min(2+5, 3+8) = 7, 1 + min(2+0, 3+0) = 3, 4 + min(2+1, 3+8) = 7.
        taken(x, 1, 0);
        cost(x, 3, 1);
        x.pin(0, 2);
        order(x, 1, 0);
        taken(x, 2, 0);
        cost(x, 7, 1);
    }

    private static void ruleTwo() {
        // A ring of four: 0 ties 1 and 3 by noughts first, so that 1 has two still.
        CostChoices x = Due.laid("n0,0,0;n0,0,0;n0,0,0;n0,0,0;e0,1,0880;e1,2,8008;e2,3,0880;e0,3,0880;");
        order(x, 0, 1, 2, 3);
        rules(x, 2, 2, 1, 0);
        DUE.is("ties are as they were", x.count(1), 4);
        DUE.is("ties are as they were", x.tie(1, 3, 0, 0), CostChoices.NONE);
        // 3 takes 0 of two alike, 2 takes 0, 1 the first of two alike, 0 as well.
        taken(x, 0, 0, 0, 0);
        cost(x, 8, 1);
    }

    private static void ruleTwoOnTied() {
        // 0 adds to (1, 2): (0,0): 3, (0,1): min(4, 1) = 1, (1,0): min(2, 1) = 1, (1,1): min(6, 5) = 5.
        CostChoices x = Due.laid("n0,0,1;n0,0,0;n0,0,0;e0,1,1300;e0,2,2504;e1,2,2451;");
        order(x, 0, 1, 2);
        rules(x, 2, 1, 0);
        DUE.is("least(0)", x.least(0), x.plan(0));
        DUE.is("plan(1)", x.plan(1), 1);
        taken(x, 1, 0, 0);
        cost(x, 3, 1);
    }

    private static void ruleThree() {
        CostChoices x = Due.laid("n0,0,0;n0,0,0;n0,0,0;n0,0,0;"
                + "e0,1,8000;e0,2,8000;e1,2,8000;e0,3,0181;e1,3,0181;e2,3,0181;");
        order(x, 3, 0, 1, 2);
        rules(x, 3, 2, 1, 0);
        // 3 takes 0, as it looks free there (3 at its 1); the others are led astray by it.
        taken(x, 1, 0, 0, 0);
        cost(x, 16, 0);
        DUE.is("least(0)", x.least(0), 3);
    }

    private static void ruleThreeTakesTheLast() {
        // Four tied each to each: the one of most choices is last; of those alike the highest.
        CostChoices x = Due.laid("n0,0;n0,0,0;n0,0,0;n0,0;e0,1,00;e0,2,00;e0,3,0;e1,2,0000;e1,3,00;e2,3,00;");
        order(x, 2, 0, 3, 1);
        rules(x, 3, 2, 1, 0);
        CostChoices y = Due.laid("n0,0,0;n0,0,0;n0,0,0;n0,0,0;n0,0,0;"
                + "e0,1,0000;e0,2,0000;e0,3,0000;e0,4,0000;e1,2,0000;e1,3,0000;e2,4,0000;e3,4,0000;");
        // A wheel: 0 is tied to four, the rim's to three.
        order(y, 0, 1, 2, 3, 4);
        rules(y, 3, 2, 2, 1, 0);
        DUE.is("plan(1)", y.plan(1), 0);
    }

    private static void whatCanNotBe() {
        CostChoices x = Due.laid("n0,99,99;n0,1,2;e0,1,9999;");
        order(x, 0, 1);
        taken(x, 0, 0);
        cost(x, NEVER, 1);
        // All is NEVER, just that: then the first is as good as any.
        CostChoices y = Due.laid("n0,99,5;n0,3,2;e0,1,0099;");
        taken(y, 0, 0);
        cost(y, NEVER, 1);
        CostChoices z = Due.laid("n0,99,5;n0,3,2;e0,1,0098;");
        taken(z, 1, 1);
        cost(z, 15, 1);
    }

    private static void answersFollowTheActs() {
        CostChoices x = new CostChoices();
        order(x, 4, 3, 1, 2, 0);
        x.loose(0, 1);
        order(x, 1, 0, 2, 3, 4);
        x.undo();
        order(x, 4, 3, 1, 2, 0);
        x.keep();
        x.pin(4, 0);
        DUE.is("reduced(4)", x.reduced(4), 0);
        DUE.is("plan(0)", x.plan(0), 39);
        x.back();
        DUE.is("reduced(4)", x.reduced(4), 2);
        Due.writeOn(x, "n0,7,3;");
        x.lay();
        order(x, 0);
        taken(x, 1);
        cost(x, 3, 1);
    }
}
