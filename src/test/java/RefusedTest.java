import java.util.ArrayList;
import java.util.List;
import java.util.function.Supplier;

/** Refused calls, and those that only ask, change nothing; of several refusals the first is told. */
public final class RefusedTest {
    private static final Due DUE = new Due("RefusedTest");
    private static final int BAD = CostChoices.BAD, NO = CostChoices.NO, NONE = CostChoices.NONE, FULL = CostChoices.FULL;
    /** How often undo, then back, then lay are called to see what lies beneath. */
    private static final int UNDOS = 8, BACKS = 2;

    public static void main(String[] args) {
        DUE.sentence("Of several the first; nothing changes then.");
        ofSeveralTheFirst();
        nothingChanges(CostChoices::new);
        nothingChanges(RefusedTest::worked);
        nothingChanges(RefusedTest::full);
        nothingChanges(RefusedTest::impossible);
        nothingChanges(RefusedTest::emptied);
        nothingChanges(RefusedTest::acted);
        nothingChanges(RefusedTest::kept);
        eachRefusal();
        DUE.end();
    }

    // ---- the states that calls are refused in

    /** Acts of all sorts, undone in part, one kept, a text with a fault. */
    private static CostChoices worked() {
        CostChoices x = new CostChoices();
        x.pin(0, 1);
        x.price(1, 0, 99);
        x.keep();
        x.table(1, 4, 1, 2, 9);
        x.loose(0, 1);
        x.rename(2, 3);
        x.pin(0, -1);
        x.pin(3, 1);
        x.undo();
        Due.writeOn(x, "n0,1;n0,2;e0,1,3;x");
        return x;
    }

    /** All that can be full is. */
    private static CostChoices full() {
        CostChoices x = Due.laid(Texts.EIGHT_NODES + Texts.TWELVE_TIES);
        for (int c = 10; c < 15; c++) {
            x.price(c % 8, 0, c);
            x.pin(c % 8, 0);
            x.keep();
        }
        x.rename(7, 3);
        Due.writeOn(x, "n".repeat(200 - x.count(5)));
        return x;
    }

    private static CostChoices impossible() {
        CostChoices x = Due.laid(Texts.IMPOSSIBLE);
        x.keep();
        x.price(0, 0, 99);
        return x;
    }

    /** All was undone and is back, no text, one node. */
    private static CostChoices emptied() {
        CostChoices x = Due.laid("n3,10,99;");
        x.keep();
        x.price(0, 0, 11);
        x.back();
        x.pin(0, 1);
        x.undo();
        x.wipe();
        return x;
    }

    /** Eight acts, none kept, and all was asked ahead. */
    private static CostChoices acted() {
        CostChoices x = new CostChoices();
        for (int c = 10; c < 20; c++) {
            x.price(c % 5, 1, c);
        }
        x.least(0);
        x.plan(0);
        return x;
    }

    /** Two kept, no act, the longest text. */
    private static CostChoices kept() {
        CostChoices x = new CostChoices();
        x.pin(2, 0);
        x.keep();
        x.pin(2, 1);
        x.keep();
        x.undo();
        x.undo();
        x.plan(0);
        Due.writeOn(x, Texts.LONGEST);
        return x;
    }

    // ---- nothing changes

    private static void nothingChanges(Supplier<CostChoices> made) {
        List<List<Integer>> due = seen(made, null);
        int refused = 0;
        for (Calls.Call call : Calls.ALL) {
            for (int[] numbers : numbers(call)) {
                int answer = call.on(made.get(), numbers);
                if (!call.act || isRefusal(call, answer)) {
                    refused++;
                    List<List<Integer>> got = seen(made, x -> call.on(x, numbers));
                    DUE.holds(call.told(numbers) + " answers " + answer + ", and nothing changes", got.equals(due));
                }
            }
        }
        DUE.holds("many are refused", refused > 200);
    }

    /** What pin answers with NONE is no refusal: it was pinned to none. */
    private static boolean isRefusal(Calls.Call call, int answer) {
        return answer < 0 && !(call.name.equals("pin") && answer == NONE);
    }

    /** Numbers around all limits, in all places, but for those of calls with many: these in pairs. */
    private static List<int[]> numbers(Calls.Call call) {
        List<int[]> all = new ArrayList<>();
        int length = call.takes.length;
        if (length == 0) {
            all.add(new int[0]);
        } else if (length == 1) {
            for (int number : new int[] {-2, -1, 0, 1, 2, 3, 4, 5, 6, 7, 8, 31, 32, 110, 126, 127, Integer.MIN_VALUE}) {
                all.add(new int[] {number});
            }
        } else {
            for (int u = -1; u <= 8; u++) {
                for (int n = -2; n <= 8; n++) {
                    addNumbers(all, length, u, n);
                }
            }
        }
        return all;
    }

    private static void addNumbers(List<int[]> all, int length, int u, int n) {
        int[][] ends = {{0, 0, 0}, {0, 0, 9}, {1, 1, 3}, {2, 0, 10}, {0, -1, 1}, {99, 0, 5}, {100, 2, -1}, {5, 1, 0}};
        for (int[] end : length == 2 ? new int[][] {{}} : ends) {
            int[] numbers = new int[length];
            numbers[0] = u;
            numbers[1] = n;
            System.arraycopy(end, 0, numbers, 2, length - 2);
            all.add(numbers);
        }
    }

    private interface Change {
        int on(CostChoices x);
    }

    /**
     * What can be seen of an object: now, after each number of undos, after each of backs, after a lay. Each
     * look is taken at an object of its own, as one object is good for 512 calls alone.
     */
    private static List<List<Integer>> seen(Supplier<CostChoices> made, Change change) {
        List<List<Integer>> all = new ArrayList<>();
        all.add(Look.atAnswers(changed(made, change)));
        for (int undos = 0; undos <= UNDOS; undos++) {
            CostChoices x = changed(made, change);
            for (int k = 0; k < undos; k++) {
                x.undo();
            }
            all.add(Look.atGraph(x));
        }
        for (int backs = 1; backs <= BACKS; backs++) {
            CostChoices x = changed(made, change);
            for (int k = 0; k < backs; k++) {
                x.back();
            }
            all.add(Look.atGraph(x));
        }
        CostChoices x = changed(made, change);
        x.lay();
        all.add(Look.atGraph(x));
        return all;
    }

    private static CostChoices changed(Supplier<CostChoices> made, Change change) {
        CostChoices x = made.get();
        if (change != null) {
            change.on(x);
        }
        return x;
    }

    // ---- of several the first

    private static void ofSeveralTheFirst() {
        CostChoices full = full();
        DUE.is("no letter, full text", full.write(127), BAD);
        DUE.is("no letter, full text", full.write(31), BAD);
        DUE.is("no figure, twelve ties", full.table(1, 7, 0, 0, 10), BAD);
        DUE.is("no choice, twelve ties", full.table(1, 7, 1, 0, 0), BAD);
        DUE.is("alike, twelve ties", full.table(7, 7, 0, 0, 0), BAD);
        DUE.is("no node, twelve ties", full.table(7, 8, 0, 0, 0), BAD);
        DUE.is("it is so, twelve ties", full.table(0, 1, 0, 0, 1), NO);
        CostChoices x = new CostChoices();
        DUE.is("no choice, not tied", x.tie(0, 3, 3, 0), BAD);
        DUE.is("no choice, not tied", x.tie(0, 3, 0, 2), BAD);
        DUE.is("no node, not tied", x.loose(0, 5), BAD);
        DUE.is("no node, not tied", x.loose(5, 0), BAD);
        DUE.is("no node, not tied", x.without(0, 5), BAD);
        DUE.is("no node, not tied", x.without(5, 0), BAD);
        DUE.is("no node, not pinned", x.pin(5, -1), BAD);
        DUE.is("no kind, as it is none", x.rename(5, 0), BAD);
        DUE.is("no node, none first", impossible().first(3), BAD);
        DUE.is("no what, none the same", impossible().least(5), BAD);
    }

    // ---- each promise's refusals, told one by one

    private static void refuses(String promise, int answer, Supplier<CostChoices> made, Change change) {
        DUE.is(promise, change.on(made.get()), answer);
        DUE.holds(promise + " changes nothing", seen(made, change).equals(seen(made, null)));
    }

    private static void eachRefusal() {
        Supplier<CostChoices> first = CostChoices::new;
        refuses("write BAD", BAD, RefusedTest::worked, x -> x.write(31));
        refuses("write FULL", FULL, RefusedTest::full, x -> x.write(32));
        refuses("write FULL, no fault", FULL, RefusedTest::kept, x -> x.write(32));
        refuses("lay NO, no text", NO, RefusedTest::emptied, CostChoices::lay);
        refuses("lay NO, a fault", NO, RefusedTest::worked, CostChoices::lay);
        refuses("price BAD", BAD, RefusedTest::worked, x -> x.price(0, 0, 100));
        refuses("price NO", NO, RefusedTest::worked, x -> x.price(1, 0, 99));
        refuses("table BAD", BAD, RefusedTest::worked, x -> x.table(0, 3, 0, 0, 10));
        refuses("table NO", NO, RefusedTest::worked, x -> x.table(4, 1, 2, 1, 9));
        refuses("table FULL", FULL, RefusedTest::full, x -> x.table(1, 7, 0, 0, 1));
        refuses("loose BAD", BAD, RefusedTest::worked, x -> x.loose(2, 5));
        refuses("loose NO", NO, RefusedTest::worked, x -> x.loose(0, 1));
        refuses("pin BAD", BAD, RefusedTest::worked, x -> x.pin(1, 2));
        refuses("pin NO, it is unpinned", NO, RefusedTest::worked, x -> x.pin(0, -1));
        refuses("pin NO, it is pinned", NO, RefusedTest::full, x -> x.pin(4, 0));
        refuses("rename BAD", BAD, RefusedTest::worked, x -> x.rename(0, 4));
        refuses("rename NO", NO, RefusedTest::worked, x -> x.rename(2, 3));
        refuses("undo NO", NO, first, CostChoices::undo);
        refuses("undo NO, behind back", NO, RefusedTest::emptied, CostChoices::undo);
        refuses("undo NO, two are kept", NO, RefusedTest::kept, CostChoices::undo);
        refuses("keep FULL", FULL, RefusedTest::full, CostChoices::keep);
        refuses("keep FULL, no act", FULL, RefusedTest::kept, CostChoices::keep);
        refuses("back NO", NO, first, CostChoices::back);
        refuses("back NO, eight acts", NO, RefusedTest::acted, CostChoices::back);
        refuses("back NO, all are back", NO, RefusedTest::emptied, CostChoices::back);
        DUE.sentence("NO: not as things stand. NONE: there is none. FULL.");
        refuses("fault NONE", NONE, first, CostChoices::fault);
        refuses("node NONE", NONE, RefusedTest::worked, x -> x.node(0, 3));
        refuses("tie NONE", NONE, RefusedTest::worked, x -> x.tie(0, 1, 0, 0));
        refuses("SAME NONE", NONE, RefusedTest::impossible, x -> x.least(2));
        refuses("NEXT NONE", NONE, RefusedTest::impossible, x -> x.least(3));
        refuses("first NONE", NONE, RefusedTest::impossible, x -> x.first(0));
        refuses("without NONE", NONE, RefusedTest::worked, x -> x.without(0, 1));
    }
}
