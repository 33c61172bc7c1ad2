/** Promises 1 to 5: a new object, write, wipe, fault, lay; and what a text is. */
public final class TextTest {
    private static final Due DUE = new Due("TextTest");
    private static final int NEVER = CostChoices.NEVER, BAD = CostChoices.BAD, NONE = CostChoices.NONE;
    private static final int NO = CostChoices.NO, FULL = CostChoices.FULL;

    public static void main(String[] args) {
        newObject();
        objectsAreApart();
        theFirstGraph();
        fiveHundredAndTwelveCalls();
        writing();
        writingWhenFull();
        wiping();
        faultOrNone();
        lengthOfTexts();
        itemsAndSigns();
        numbers();
        rows();
        kinds();
        choices();
        ownCosts();
        eightNodes();
        tiedNodes();
        tiedOnce();
        tables();
        tableOrder();
        tableFigures();
        twelveTies();
        placeOfTheFault();
        layOrNo();
        nonePinned();
        laying();
        refusedLay();
        DUE.end();
    }

    private static void faultAt(String text, int place) {
        CostChoices x = Due.written(text);
        DUE.is("fault of " + text, x.fault(), place);
        DUE.is("lay of " + text, x.lay(), NO);
        DUE.is("nodes after " + text, x.count(0), 5);
        DUE.is("letters after " + text, x.count(5), text.length());
    }

    private static void noFault(String text, int nodes, int ties) {
        CostChoices x = Due.written(text);
        DUE.is("fault of " + text, x.fault(), NONE);
        DUE.is("lay of " + text, x.lay(), nodes);
        DUE.is("nodes of " + text, x.count(0), nodes);
        DUE.is("ties of " + text, x.count(1), ties);
        DUE.is("letters of " + text, x.count(5), text.length());
    }

    /** Each of the items is a fault alone, behind an item and ahead of one. */
    private static void faults(String... items) {
        for (String item : items) {
            faultAt(item, 0);
            faultAt("n0,7;" + item, 5);
            faultAt("n3,17,2;" + item + "n0,1;", 8);
        }
    }

    /** Each of the items is a fault behind two nodes, of two choices and of three. */
    private static void faultsOfTies(String... items) {
        String two = "n0,1,2;n0,1,2,3;";
        for (String item : items) {
            faultAt(two + item, two.length());
            faultAt(two + item + "n0,1;", two.length());
        }
    }

    private static void newObject() {
        DUE.sentence("`CostChoices()`: As told.");
        CostChoices x = new CostChoices();
        DUE.row("count", x::count, 5, 5, 0, 0, 0, 0, BAD);
        DUE.row("pinned", u -> x.node(u, 3), NONE, NONE, NONE, NONE, NONE, BAD);
        DUE.is("fault of no text", x.fault(), NONE);
        DUE.is("lay of no text", x.lay(), NO);
        DUE.is("undo", x.undo(), NO);
        DUE.is("back", x.back(), NO);
        DUE.is("wipe", x.wipe(), 0);
        DUE.is("the first letter", x.write('n'), 1);
    }

    private static void objectsAreApart() {
        CostChoices x = new CostChoices();
        CostChoices y = new CostChoices();
        x.write('n');
        x.price(0, 0, 50);
        x.pin(1, 0);
        x.loose(0, 1);
        x.keep();
        DUE.row("count of the other", y::count, 5, 5, 0, 0, 0, 0);
        DUE.is("cost of the other", y.cost(0, 0), 5);
        DUE.is("least of the other", y.least(0), 22);
        DUE.row("count of one made later", new CostChoices()::count, 5, 5, 0, 0, 0, 0);
    }

    private static void theFirstGraph() {
        DUE.sentence("at first n0,5,2,7;n1,3,1;n2,0,4;n0,6,6;n3,9,10,1;"
                + "e0,1,019200;e0,2,300519;e1,2,0990;e2,3,0440;e3,4,102301;");
        CostChoices x = new CostChoices();
        DUE.row("kind", u -> x.node(u, 0), 0, 1, 2, 0, 3, BAD);
        DUE.row("choices", u -> x.node(u, 1), 3, 2, 2, 2, 3, BAD);
        DUE.row("ties", u -> x.node(u, 2), 2, 2, 3, 2, 1, BAD);
        DUE.row("cost of 0", i -> x.cost(0, i), 5, 2, 7, BAD);
        DUE.row("cost of 1", i -> x.cost(1, i), 6, 2, BAD);
        DUE.row("cost of 2", i -> x.cost(2, i), 0, 5, BAD);
        DUE.row("cost of 3", i -> x.cost(3, i), 6, 6, BAD);
        DUE.row("cost of 4", i -> x.cost(4, i), 18, 20, 2, BAD);
        DUE.row("tie 0, 1 at 0", j -> x.tie(0, 1, 0, j), 0, 1, BAD);
        DUE.row("tie 0, 1 at 1", j -> x.tie(0, 1, 1, j), NEVER, 2, BAD);
        DUE.row("tie 0, 1 at 2", j -> x.tie(0, 1, 2, j), 0, 0, BAD);
        DUE.row("tie 0, 2 at 0", j -> x.tie(0, 2, 0, j), 3, 0, BAD);
        DUE.row("tie 0, 2 at 1", j -> x.tie(0, 2, 1, j), 0, 5, BAD);
        DUE.row("tie 0, 2 at 2", j -> x.tie(0, 2, 2, j), 1, NEVER, BAD);
        DUE.row("tie 1, 2 at 0", j -> x.tie(1, 2, 0, j), 0, NEVER, BAD);
        DUE.row("tie 1, 2 at 1", j -> x.tie(1, 2, 1, j), NEVER, 0, BAD);
        DUE.row("tie 2, 3 at 0", j -> x.tie(2, 3, 0, j), 0, 4, BAD);
        DUE.row("tie 2, 3 at 1", j -> x.tie(2, 3, 1, j), 4, 0, BAD);
        DUE.row("tie 3, 4 at 0", j -> x.tie(3, 4, 0, j), 1, 0, 2, BAD);
        DUE.row("tie 3, 4 at 1", j -> x.tie(3, 4, 1, j), 3, 0, 1, BAD);
    }

    private static void fiveHundredAndTwelveCalls() {
        DUE.sentence("An object is used for at most 512 calls after it has been made; what later calls answer is free.");
        CostChoices acted = new CostChoices();
        int was = 5;
        for (int call = 1; call < 512; call++) {
            int c = call % 90 + 6;
            DUE.is("price, call " + call, acted.price(0, 0, c), was);
            was = c;
        }
        DUE.is("undo, call 512", acted.undo(), 7);
        CostChoices told = new CostChoices();
        for (int call = 1; call < 512; call++) {
            DUE.is("letter, call " + call, told.write('n'), call <= 200 ? call : FULL);
        }
        DUE.is("wipe, call 512", told.wipe(), 200);
        CostChoices kept = new CostChoices();
        for (int call = 1; call <= 512; call += 2) {
            DUE.is("keep, call " + call, kept.keep(), 1);
            DUE.is("back, call " + (call + 1), kept.back(), 0);
        }
    }

    private static void writing() {
        DUE.sentence("A letter (32 to 126, as in ASCII) comes behind THE TEXT: how long it is. BAD; FULL.");
        CostChoices x = new CostChoices();
        for (int letter = 32; letter <= 126; letter++) {
            DUE.is("write(" + letter + ")", x.write(letter), letter - 31);
        }
        DUE.each("write", x::write, BAD, 31, 127, 0, -1, 10, 128, 255, 256 + 'n', 65536 + 'n', -'n',
                Integer.MAX_VALUE, Integer.MIN_VALUE, Integer.MIN_VALUE + 'n');
        DUE.is("count(5)", x.count(5), 95);
        CostChoices y = Due.written("n0,12;");
        y.lay();
        DUE.is("one figure behind the other", y.cost(0, 0), 12);
        Due.writeOn(y, "n0,34;");
        DUE.is("behind what stands", y.lay(), 2);
        DUE.is("behind what stands", y.cost(1, 0), 34);
    }

    private static void writingWhenFull() {
        CostChoices x = new CostChoices();
        for (int k = 1; k <= 200; k++) {
            DUE.is("write " + k, x.write('n'), k);
        }
        DUE.is("write 201", x.write('n'), FULL);
        DUE.is("write 202", x.write(' '), FULL);
        DUE.is("write of none, full: BAD is first", x.write(127), BAD);
        DUE.is("count(5)", x.count(5), 200);
        DUE.is("wipe", x.wipe(), 200);
        DUE.is("there is room again", x.write('n'), 1);
    }

    private static void wiping() {
        DUE.sentence("THE TEXT is empty: how long it was.");
        CostChoices x = Due.written("n0,1");
        DUE.is("wipe", x.wipe(), 4);
        DUE.is("wipe again", x.wipe(), 0);
        DUE.is("count(5)", x.count(5), 0);
        DUE.is("fault", x.fault(), NONE);
        DUE.is("lay", x.lay(), NO);
        DUE.is("nodes", x.count(0), 5);
        DUE.is("write", x.write('n'), 1);
        DUE.is("fault", x.fault(), 0);
        DUE.is("wipe of one", x.wipe(), 1);
        CostChoices y = Due.laid("n0,1;");
        DUE.is("wipe", y.wipe(), 5);
        DUE.is("what is laid stays", y.count(0), 1);
        Due.writeOn(y, "n0,1");
        DUE.is("the ; that stood there is gone", y.fault(), 0);
        y.wipe();
        Due.writeOn(y, "n0");
        DUE.is("the , that stood there is gone", y.fault(), 0);
        DUE.is("lay", y.lay(), NO);
    }

    private static void faultOrNone() {
        DUE.sentence("`int fault()`: FAULT. NONE.");
        CostChoices x = new CostChoices();
        DUE.is("no text", x.fault(), NONE);
        Due.writeOn(x, "n0,1");
        DUE.is("the first item is not at its end", x.fault(), 0);
        x.write(';');
        DUE.is("now it is", x.fault(), NONE);
        x.write('n');
        DUE.is("the second", x.fault(), 5);
        DUE.is("asked again", x.fault(), 5);
        DUE.is("nothing is laid by it", x.count(0), 5);
        DUE.is("the text stays", x.count(5), 6);
    }

    private static void lengthOfTexts() {
        DUE.sentence("A TEXT is letters (200 at most)");
        DUE.is("the longest", Texts.LONGEST.length(), 200);
        noFault(Texts.LONGEST, 8, 4);
        CostChoices x = Due.written(Texts.LONGEST);
        DUE.is("letter 201", x.write('n'), FULL);
        DUE.is("no fault still", x.fault(), NONE);
        DUE.is("lay", x.lay(), 8);
        DUE.row("the last row", j -> x.tie(6, 7, 3, j), 2, 3, 4, 5, BAD);
        faultAt(Texts.LONGEST.substring(0, 199), 178);
        // The last letter is the last figure of a row, with no ; behind it.
        faultAt(Texts.LONGEST.replaceFirst("n0,1,", "n0,11,").substring(0, 200), 179);
        // The last letter is a number's first figure, with none behind it.
        String ahead = "n0,1,22,33,44;".repeat(6) + "n0,1,2,33,44;".repeat(2) + Texts.LONGEST.substring(112);
        faultAt(ahead + "e0", 198);
        faultAt(ahead + "ee", 198);
    }

    private static void itemsAndSigns() {
        DUE.sentence("ITEMS one behind the other, each a letter, then what it tells, parted by , and a ; behind it");
        noFault("n0,1;", 1, 0);
        noFault("n0,1;n0,1;e0,1,1;n0,1;e1,2,1;e0,2,1;", 3, 3);
        faults("n", "n0", "n0,", "n0,1", "n;", "n0;", "n0,;", "n,1;", "n0,1,;", "n0,1,,2;", "n,0,1;");
        faultAt("n0,1;;", 5);
        faultAt("n0,1; ", 5);
        faults("N0,1;", "x0,1;", "0,1;", ";", ",", "0", " ", "o0,1;", "m0,1;", "f0,1,1;", "d0,1,1;");
        faults(" n0,1;", "n 0,1;", "n0 ,1;", "n0, 1;", "n0,1 ;", "n0.1;", "n0:1;", "n0,1:", "n0,1.", "n0;1;");
        faultsOfTies("e", "e0", "e0,", "e0,1", "e0,1,", "e0,1,012345", "e0,1;", "e0,1,;", "e;", "e0;", "e,1,012345;",
                "e0,,012345;", "e0,1,,012345;", "e0,1,012345,;", "e0.1,012345;", "e0,1.012345;", "E0,1,012345;",
                "e 0,1,012345;", "e0,1 ,012345;", "e0,1, 012345;", "e0,1,012345 ;", "e0,1,012345:", "e0;1,012345;");
    }

    private static void numbers() {
        DUE.sentence("numbers: one or two figures");
        noFault("n3,0,9,00,09;", 1, 0);
        noFault("n03,10,99,01;", 1, 0);
        noFault("n0,1;n0,1;e00,01,9;", 2, 1);
        CostChoices x = Due.laid("n02,07,70;n0,1;e00,01,38;");
        DUE.is("kind", x.node(0, 0), 2);
        DUE.row("cost", i -> x.cost(0, i), 7, 71);
        DUE.row("tie", i -> x.tie(0, 1, i, 0), 3, 8);
        faults("n000,1;", "n003,1;", "n0,000;", "n0,001;", "n0,100;", "n0,1,001;", "n0,999;", "n-1,1;", "n0,-1;", "n+0,1;",
                "n0,+1;", "n0,/;", "n0,:;", "n/,1;", "n:,1;", "n0,1/;", "n0,1:;", "n0,a;", "n0,0x;", "n0,1 1;");
        faultsOfTies("e000,1,012345;", "e0,001,012345;", "e-1,1,012345;", "e0,-1,012345;", "e/,1,012345;", "e0,:,012345;");
    }

    private static void rows() {
        DUE.sentence("a row: one figure for each, one next to the other");
        noFault("n0,1,2;n0,1,2,3;e0,1,012345;", 2, 1);
        faultsOfTies("e0,1,0,1,2,3,4,5;", "e0,1,012,345;", "e0,1,0 12345;", "e0,1,01234a;", "e0,1,01234:;", "e0,1,/12345;",
                "e0,1,000102030405;");
    }

    private static void kinds() {
        DUE.sentence("nK,A,.. a NODE of KIND K (0 PLAIN, 1 HEAVY, 2 TIMID, 3 STERN)");
        CostChoices x = Due.laid("n0,4,4;n1,4,4;n2,4,4;n3,4,11;");
        DUE.row("kind", u -> x.node(u, 0), 0, 1, 2, 3);
        DUE.row("cost at 0", u -> x.cost(u, 0), 4, 8, 4, 8);
        DUE.row("cost at 1", u -> x.cost(u, 1), 4, 8, 5, NEVER);
        faults("n4,1;", "n5,1;", "n9,1;", "n04,1;", "n10,1;", "n30,1;", "n99,1;");
    }

    private static void choices() {
        DUE.sentence("with 1 to 4 CHOICES 0, 1, .., whose OWN costs are A, ..");
        CostChoices x = Due.laid("n0,8;n0,8,7;n0,8,7,6;n0,8,7,6,5;");
        DUE.row("choices", u -> x.node(u, 1), 1, 2, 3, 4);
        DUE.row("costs of one", i -> x.cost(0, i), 8, BAD);
        DUE.row("costs of two", i -> x.cost(1, i), 8, 7, BAD);
        DUE.row("costs of three", i -> x.cost(2, i), 8, 7, 6, BAD);
        DUE.row("costs of four", i -> x.cost(3, i), 8, 7, 6, 5, BAD);
        faults("n0;", "n3;", "n0,1,2,3,4,5;", "n0,1,2,3,4,5,6;");
    }

    private static void ownCosts() {
        DUE.sentence("(0 to 98; 99: NEVER); 8 at most, 0, 1, ..");
        CostChoices x = Due.laid("n0,0,98,99;");
        DUE.row("cost", i -> x.cost(0, i), 0, 98, NEVER);
        faults("n0,100;");
    }

    private static void eightNodes() {
        noFault("n0,1;".repeat(7), 7, 0);
        noFault(Texts.EIGHT_NODES, 8, 0);
        faultAt(Texts.EIGHT_NODES + "n0,1;", 40);
        faultAt(Texts.EIGHT_NODES + "e0,1,1;n0,1;", 47);
        CostChoices x = Due.laid("n0,10;n0,11;n0,12;n0,13;n0,14;n0,15;n0,16;n0,17;");
        DUE.row("cost", u -> x.cost(u, 0), 10, 11, 12, 13, 14, 15, 16, 17, BAD);
    }

    private static void tiedNodes() {
        DUE.sentence("eU,V,D NODES U and V (told ahead, U lower)");
        noFault("n0,1;n0,1;e0,1,1;", 2, 1);
        noFault(Texts.EIGHT_NODES + "e6,7,1;e0,7,1;", 8, 2);
        faultAt("e0,1,1;n0,1;n0,1;", 0);
        faultAt("n0,1;e0,1,1;n0,1;", 5);
        faultAt("n0,1;n0,1;e1,2,1;n0,1;", 10);
        faultAt("n0,1;n0,1;e1,0,1;", 10);
        faultAt("n0,1;n0,1;e0,0,1;", 10);
        faultAt("n0,1;n0,1;e1,1,1;", 10);
        faultsOfTies("e1,0,012345;", "e0,0,0123;", "e1,1,012345678;", "e0,2,012345;", "e0,2,01;", "e0,2,;", "e1,2,012;",
                "e2,3,0123;", "e2,0,01;", "e0,8,0123;", "e0,10,012345;", "e0,99,012345;", "e10,1,012345;", "e99,99,0;");
        faultAt(Texts.EIGHT_NODES + "e7,8,1;", 40);
        faultAt(Texts.EIGHT_NODES + "e0,8,1;", 40);
    }

    private static void tiedOnce() {
        DUE.sentence("are TIED (once at most)");
        noFault("n0,1;n0,1;n0,1;e0,1,1;e0,2,1;e1,2,1;", 3, 3);
        faultAt("n0,1;n0,1;e0,1,1;e0,1,1;", 17);
        faultAt("n0,1;n0,1;e0,1,1;e0,1,2;", 17);
        faultAt("n0,1;n0,1;e0,1,1;n0,1;e0,2,1;e00,01,1;", 29);
    }

    private static void tables() {
        DUE.sentence("by the TABLE D: a row of as many figures as U's CHOICES times V's");
        noFault("n0,1;n0,1;e0,1,0;", 2, 1);
        noFault("n0,1,2,3;n0,1,2;e0,1,012345;", 2, 1);
        noFault("n0,1,2,3,4;n0,1,2,3,4;e0,1,0123456789012345;", 2, 1);
        faultsOfTies("e0,1,01234;", "e0,1,0123456;", "e0,1,0;", "e0,1,0123;", "e0,1,012345678;", "e0,1,01234567890;");
        faultAt("n0,1;n0,1;e0,1,;", 10);
        faultAt("n0,1;n0,1;e0,1,00;", 10);
        faultAt("n0,1,2,3,4;n0,1,2,3,4;e0,1,012345678901234;", 22);
        faultAt("n0,1,2,3,4;n0,1,2,3,4;e0,1,01234567890123456;", 22);
    }

    private static void tableOrder() {
        DUE.sentence("first all of V for U's 0, then for 1, ..");
        CostChoices x = Due.laid("n0,1,2;n0,1,2,3;e0,1,012345;");
        DUE.row("at 0", j -> x.tie(0, 1, 0, j), 0, 1, 2);
        DUE.row("at 1", j -> x.tie(0, 1, 1, j), 3, 4, 5);
        CostChoices y = Due.laid("n0,1,2,3;n0,1,2;e0,1,012345;");
        DUE.row("at 0", j -> y.tie(0, 1, 0, j), 0, 1);
        DUE.row("at 1", j -> y.tie(0, 1, 1, j), 2, 3);
        DUE.row("at 2", j -> y.tie(0, 1, 2, j), 4, 5);
    }

    private static void tableFigures() {
        DUE.sentence("(0 to 8; 9: NEVER); 12 at most");
        CostChoices x = Due.laid("n0,1,2;n0,1,2;e0,1,0189;");
        DUE.row("at 0", j -> x.tie(0, 1, 0, j), 0, 1);
        DUE.row("at 1", j -> x.tie(0, 1, 1, j), 8, NEVER);
    }

    private static void twelveTies() {
        String eight = Texts.EIGHT_NODES;
        noFault(eight + Texts.ELEVEN_TIES, 8, 11);
        noFault(eight + Texts.TWELVE_TIES, 8, 12);
        faultAt(eight + Texts.TWELVE_TIES + "e1,7,1;", eight.length() + Texts.TWELVE_TIES.length());
    }

    private static void placeOfTheFault() {
        DUE.sentence("FAULT: the place of the first letter of the first ITEM that is not so.");
        faultAt("x", 0);
        faultAt("n0,1;x", 5);
        faultAt("n0,1;n9,1;n8,1;", 5);
        faultAt("n0,1;n0,11,22,33,4x;", 5);
        faultAt("n0,1;n0,1;e0,1,x;n9,1;", 10);
        faultAt("n0,1;n0,1,2;e0,1,01;e0,1,01;", 20);
        faultAt("n0,1;".repeat(8) + "n0,1;".repeat(8), 40);
        faultAt("n0,1,2,3,4;".repeat(8) + "e0,1,0123456789012345;".repeat(5), 110);
        faultAt("n0,1;".repeat(8) + "x".repeat(160), 40);
    }

    private static void layOrNo() {
        DUE.sentence("LAID is a TEXT without FAULT, of a NODE at least (NO else;");
        DUE.is("of no node", new CostChoices().lay(), NO);
        DUE.is("of one", Due.written("n0,0;").lay(), 1);
        DUE.is("of a fault", Due.written("n0,0;n").lay(), NO);
        DUE.is("of a tie alone", Due.written("e0,1,0;").lay(), NO);
    }

    private static void nonePinned() {
        DUE.sentence("none is PINNED.");
        CostChoices x = new CostChoices();
        x.pin(0, 1);
        x.pin(4, 2);
        Due.writeOn(x, "n0,1,2;n0,1;n0,1;n0,1;n0,1,2,3;");
        DUE.is("lay", x.lay(), 5);
        DUE.is("count(2)", x.count(2), 0);
        DUE.row("pinned", u -> x.node(u, 3), NONE, NONE, NONE, NONE, NONE);
        DUE.row("cost", i -> x.cost(0, i), 1, 2);
    }

    private static void laying() {
        DUE.sentence("LAID: how many NODES; nothing UNDONE, KEPT. NO.");
        CostChoices x = new CostChoices();
        x.pin(0, 1);
        x.pin(1, 1);
        x.keep();
        Due.writeOn(x, "n1,4,99;n2,3,2,99;e0,1,012349;");
        DUE.is("lay", x.lay(), 2);
        DUE.row("count", x::count, 2, 1, 0, 0, 0, 30);
        DUE.is("undo", x.undo(), NO);
        DUE.is("back", x.back(), NO);
        DUE.row("pinned", u -> x.node(u, 3), NONE, NONE, BAD);
        DUE.row("cost of 0", i -> x.cost(0, i), 8, NEVER, BAD);
        DUE.row("cost of 1", i -> x.cost(1, i), 3, 3, NEVER, BAD);
        DUE.row("tie at 0", j -> x.tie(0, 1, 0, j), 0, 1, 2, BAD);
        DUE.row("tie at 1", j -> x.tie(0, 1, 1, j), 3, 4, NEVER, BAD);
        x.price(0, 0, 5);
        x.keep();
        x.keep();
        DUE.is("lay again", x.lay(), 2);
        DUE.row("count", x::count, 2, 1, 0, 0, 0, 30);
        DUE.is("as it is told", x.cost(0, 0), 8);
        DUE.is("room to keep", x.keep(), 1);
    }

    private static void refusedLay() {
        CostChoices x = new CostChoices();
        x.pin(0, 1);
        x.keep();
        Due.writeOn(x, "n0,1;n");
        DUE.is("lay with a fault", x.lay(), NO);
        DUE.row("count", x::count, 5, 5, 1, 1, 1, 6);
        x.wipe();
        DUE.is("lay of no text", x.lay(), NO);
        DUE.row("count", x::count, 5, 5, 1, 1, 1, 0);
        DUE.is("cost", x.cost(0, 0), NEVER);
        DUE.is("undo", x.undo(), 0);
        DUE.is("back", x.back(), 0);
        DUE.is("pinned as it was kept", x.node(0, 3), 1);
    }
}
