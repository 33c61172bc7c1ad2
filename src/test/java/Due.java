import java.util.function.IntUnaryOperator;

/** Counts the calls of a test, prints those whose answer is not the one that is due. */
final class Due {
    private final String test;
    private String sentence = "";
    private int askedAhead;
    private int asked;
    private int wrong;

    Due(String test) {
        this.test = test;
    }

    /** What is asked from here on tests these words, that must stand in the document. */
    void sentence(String words) {
        endSentence();
        sentence = words;
        askedAhead = asked;
        if (!Doc.words().contains(words)) {
            fails("does not stand in the document");
        }
    }

    private void endSentence() {
        if (!sentence.isEmpty() && asked == askedAhead) {
            fails("has no test");
        }
    }

    private void fails(String what) {
        wrong++;
        System.out.println(test + ": [" + sentence + "] " + what);
    }

    void is(String call, int got, int want) {
        asked++;
        if (got != want) {
            fails(call + " answered " + got + ", due is " + want);
        }
    }

    void holds(String what, boolean so) {
        asked++;
        if (!so) {
            fails(what + " does not hold");
        }
    }

    /** The answers of one call for the numbers from 0 on. */
    void row(String call, IntUnaryOperator ask, int... want) {
        for (int k = 0; k < want.length; k++) {
            is(call + " at " + k, ask.applyAsInt(k), want[k]);
        }
    }

    /** One answer of a call for all of these numbers. */
    void each(String call, IntUnaryOperator ask, int want, int... numbers) {
        for (int number : numbers) {
            is(call + " of " + number, ask.applyAsInt(number), want);
        }
    }

    void end() {
        endSentence();
        System.out.println(test + ": " + asked + " asked, " + wrong + " wrong");
        if (wrong != 0) {
            System.exit(1);
        }
    }

    static CostChoices written(String text) {
        CostChoices x = new CostChoices();
        writeOn(x, text);
        return x;
    }

    static CostChoices laid(String text) {
        CostChoices x = written(text);
        if (x.lay() <= 0) {
            System.out.println("not laid: " + text);
            System.exit(1);
        }
        return x;
    }

    static void writeOn(CostChoices x, String text) {
        for (int k = 0; k < text.length(); k++) {
            x.write(text.charAt(k));
        }
    }
}
