/** Counts the calls of a test, prints those whose answer is not the one that is due. */
final class Due {
    private final String test;
    private int asked;
    private int wrong;

    Due(String test) {
        this.test = test;
    }

    void is(String call, int got, int want) {
        asked++;
        if (got != want) {
            wrong++;
            System.out.println(test + ": " + call + " answered " + got + ", due is " + want);
        }
    }

    void holds(String what, boolean so) {
        asked++;
        if (!so) {
            wrong++;
            System.out.println(test + ": " + what + " does not hold");
        }
    }

    /** The answers of one call for the numbers from 0 on. */
    void row(String call, java.util.function.IntUnaryOperator ask, int... want) {
        for (int k = 0; k < want.length; k++) {
            is(call + " at " + k, ask.applyAsInt(k), want[k]);
        }
    }

    void end() {
        System.out.println(test + ": " + asked + " asked, " + wrong + " wrong");
        if (wrong != 0) {
            System.exit(1);
        }
    }

    static CostChoices written(String text) {
        CostChoices x = new CostChoices();
        writeOn(x, text);
        return x;
    }

    static CostChoices laid(String text) {
        CostChoices x = written(text);
        if (x.lay() <= 0) {
            System.out.println("not laid: " + text);
            System.exit(1);
        }
        return x;
    }

    static void writeOn(CostChoices x, String text) {
        for (int k = 0; k < text.length(); k++) {
            x.write(text.charAt(k));
        }
    }
}
