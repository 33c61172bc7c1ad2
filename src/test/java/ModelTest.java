import java.util.Random;

/** All promises: long runs of calls, good and wrong, on the class and on the model side by side. */
public final class ModelTest {
    private static final Due DUE = new Due("ModelTest");
    /** With a text of some 220 letters behind them, the calls of a run are 512 at most. */
    private static final int RUNS = 2000, CALLS = 285;

    private final Random random;
    private final int run;
    private final CostChoices x = new CostChoices();
    private final Model m = new Model();

    private ModelTest(int run) {
        this.run = run;
        random = new Random(run * 7919L + 17);
    }

    public static void main(String[] args) {
        for (int run = 0; run < RUNS; run++) {
            new ModelTest(run).go();
        }
        DUE.end();
    }

    private void go() {
        int calls = 0;
        if (run % 8 != 0) {
            calls += tell(text());
        }
        while (calls < CALLS) {
            calls += random.nextInt(60) == 0 ? tell(text()) : one();
        }
    }

    private void same(String call, int got, int want) {
        DUE.is("run " + run + ": " + call, got, want);
    }

    private int tell(String text) {
        same("wipe", x.wipe(), m.wipe());
        for (int k = 0; k < text.length(); k++) {
            same("write", x.write(text.charAt(k)), m.write(text.charAt(k)));
        }
        same("fault of " + text, x.fault(), m.fault());
        same("lay of " + text, x.lay(), m.lay());
        return text.length() + 3;
    }

    private String text() {
        StringBuilder text = Texts.random(random);
        if (text.length() > 200 && random.nextInt(3) > 0) {
            text.setLength(text.lastIndexOf(";", 199) + 1);
        }
        if (random.nextInt(5) == 0) {
            spoil(text);
        }
        return text.toString();
    }

    private void spoil(StringBuilder text) {
        String letters = "ne0123456789,;, x";
        int place = random.nextInt(text.length());
        char letter = letters.charAt(random.nextInt(letters.length()));
        switch (random.nextInt(3)) {
            case 0: text.setCharAt(place, letter); break;
            case 1: text.insert(place, letter); break;
            default: text.deleteCharAt(place); break;
        }
    }

    private int u() {
        int odd = random.nextInt(60);
        if (odd == 0) {
            return random.nextInt();
        }
        return odd < 4 ? random.nextInt(11) - 1 : random.nextInt(m.count(0));
    }

    private int i(int u) {
        int odd = random.nextInt(60);
        if (odd == 0) {
            return random.nextInt();
        }
        int choices = m.node(u, 1);
        return odd < 4 || choices < 1 ? random.nextInt(7) - 2 : random.nextInt(choices);
    }

    private int upTo(int most) {
        int odd = random.nextInt(60);
        return odd == 0 ? random.nextInt() : random.nextInt(20) == 0 ? -1 : random.nextInt(most + 2);
    }

    private int one() {
        int u = u();
        int v = u();
        int i = i(u);
        int j = i(v);
        int c;
        switch (random.nextInt(26)) {
            case 0: c = upTo(126); same("write", x.write(c), m.write(c)); break;
            case 1: same("fault", x.fault(), m.fault()); break;
            case 2: c = upTo(3); same("node", x.node(u, c), m.node(u, c)); break;
            case 3: same("cost", x.cost(u, i), m.cost(u, i)); break;
            case 4: same("tie", x.tie(u, v, i, j), m.tie(u, v, i, j)); break;
            case 5: c = upTo(99); same("price", x.price(u, i, c), m.price(u, i, c)); break;
            case 6:
            case 7:
            case 8: c = upTo(9); same("table", x.table(u, v, i, j, c), m.table(u, v, i, j, c)); break;
            case 9: same("loose", x.loose(u, v), m.loose(u, v)); break;
            case 10: c = random.nextInt(3) == 0 ? -1 : i; same("pin", x.pin(u, c), m.pin(u, c)); break;
            case 11: c = upTo(3); same("rename", x.rename(u, c), m.rename(u, c)); break;
            case 12: same("undo", x.undo(), m.undo()); break;
            case 13:
            case 14: c = upTo(1); same("turn", x.turn(u, c), m.turn(u, c)); break;
            case 15:
            case 16: same("reduced", x.reduced(u), m.reduced(u)); break;
            case 17: c = upTo(1); same("plan", x.plan(c), m.plan(c)); break;
            case 18:
            case 19: c = upTo(4); same("least " + c, x.least(c), m.least(c)); break;
            case 20: same("first", x.first(u), m.first(u)); break;
            case 21: same("with", x.with(u, i), m.with(u, i)); break;
            case 22: same("without", x.without(u, v), m.without(u, v)); break;
            case 23: same("keep", x.keep(), m.keep()); break;
            case 24: if (random.nextInt(3) == 0) { same("back", x.back(), m.back()); } break;
            default: c = upTo(5); same("count", x.count(c), m.count(c)); break;
        }
        return 1;
    }
}
