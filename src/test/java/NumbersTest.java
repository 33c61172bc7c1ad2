import java.util.Arrays;

/** Every number of every call, at both ends of what is told and beyond, on small graphs and large. */
public final class NumbersTest {
    private static final Due DUE = new Due("NumbersTest");
    private static final int BAD = CostChoices.BAD;
    /** Numbers that are none anywhere; some come to a good one, if they are cut or multiplied. */
    private static final int[] FAR = {-1000, 1000, 1 << 16, (1 << 16) + 1, 1 << 20, 1 << 24, 1 << 28, 1 << 29, 1 << 30,
        (1 << 30) + 1, -(1 << 30), 1000000, 999999, Integer.MIN_VALUE, Integer.MIN_VALUE + 1, Integer.MIN_VALUE + 64,
        Integer.MAX_VALUE, Integer.MAX_VALUE - 1};
    private static final String[] TEXTS = {"n0,1,2;n0,3;e0,1,12;", "n0,5;n1,1,2,3,4;",
        "n0,5,2,7;n1,3,1;n2,0,4;n0,6,6;n3,9,10,1;e0,1,019200;e0,2,300519;e1,2,0990;e2,3,0440;e3,4,102301;",
        Texts.EIGHT_NODES + Texts.TWELVE_TIES, Texts.LONGEST, Texts.IMPOSSIBLE};

    public static void main(String[] args) {
        DUE.sentence("BAD: a number is none that is told (NODES, CHOICES: such as there are).");
        for (String text : TEXTS) {
            int[] choices = choicesOf(text);
            for (Calls.Call call : Calls.ALL) {
                for (int place = 0; place < call.takes.length; place++) {
                    numbersOf(text, choices, call, place);
                }
                if (call.takes.length > 0) {
                    allFar(text, call);
                }
            }
        }
        DUE.end();
    }

    private static int[] choicesOf(String text) {
        CostChoices x = Due.laid(text);
        int[] choices = new int[x.count(0)];
        for (int u = 0; u < choices.length; u++) {
            choices[u] = x.node(u, 1);
        }
        return choices;
    }

    private static void numbersOf(String text, int[] choices, Calls.Call call, int place) {
        for (int u = 0; u < choices.length; u++) {
            int[] good = goodNumbers(call, u, choices.length);
            int[] ends = ends(choices, call, good, place);
            good(text, call, good, place, ends[0]);
            good(text, call, good, place, ends[1]);
            bad(text, call, good, place, ends[0] - 1);
            bad(text, call, good, place, ends[1] + 1);
            for (int far : FAR) {
                bad(text, call, good, place, far);
            }
        }
    }

    /** Node u first, and another where there are two; noughts but for the letter. */
    private static int[] goodNumbers(Calls.Call call, int u, int nodes) {
        int[] good = new int[call.takes.length];
        boolean first = true;
        for (int place = 0; place < good.length; place++) {
            if (call.takes[place] == Calls.Takes.NODE) {
                good[place] = first ? u : (u + 1) % nodes;
                first = false;
            } else if (call.takes[place] == Calls.Takes.LETTER) {
                good[place] = 'n';
            }
        }
        return good;
    }

    /** The lowest and the highest that is told for this place. */
    private static int[] ends(int[] choices, Calls.Call call, int[] good, int place) {
        switch (call.takes[place]) {
            case LETTER: return new int[] {32, 126};
            case NODE: return new int[] {0, choices.length - 1};
            case CHOICE: return new int[] {0, choices[nodeOf(call, good, place)] - 1};
            case PIN: return new int[] {-1, choices[good[0]] - 1};
            case OWN_COST: return new int[] {0, 99};
            case FIGURE: return new int[] {0, 9};
            case KIND: return new int[] {0, 3};
            default: return new int[] {0, call.whats - 1};
        }
    }

    /** Of two choices the first is the first node's. */
    private static int nodeOf(Calls.Call call, int[] good, int place) {
        boolean second = call.takes[place - 1] == Calls.Takes.CHOICE;
        return second ? good[1] : good[0];
    }

    private static void good(String text, Calls.Call call, int[] good, int place, int number) {
        int[] numbers = good.clone();
        numbers[place] = number;
        if (call.takes[place] == Calls.Takes.NODE && isAlike(call, numbers)) {
            return;
        }
        CostChoices x = Due.laid(text);
        x.wipe();
        DUE.holds(call.told(numbers) + " on " + text + " is not BAD", call.on(x, numbers) != BAD);
    }

    /** Whether a call that wants unlike nodes has one twice. */
    private static boolean isAlike(Calls.Call call, int[] numbers) {
        return (call.name.equals("tie") || call.name.equals("table")) && numbers[0] == numbers[1];
    }

    private static void bad(String text, Calls.Call call, int[] good, int place, int number) {
        int[] numbers = good.clone();
        numbers[place] = number;
        isBad(text, call, numbers);
    }

    private static void allFar(String text, Calls.Call call) {
        for (int far : FAR) {
            int[] numbers = new int[call.takes.length];
            Arrays.fill(numbers, far);
            isBad(text, call, numbers);
        }
    }

    private static void isBad(String text, Calls.Call call, int[] numbers) {
        CostChoices x = Due.laid(text);
        DUE.is(call.told(numbers) + " on " + text, call.on(x, numbers), BAD);
    }
}
