import java.util.List;
import java.util.function.ToIntBiFunction;

/** Every call of the face that takes or changes something, by name, so that tests can go through all. */
final class Calls {
    /** What an argument of a call may be. */
    enum Takes { LETTER, NODE, CHOICE, OWN_COST, FIGURE, PIN, KIND, WHAT }

    /** A choice is one of the node's that stands in the same place among the nodes. */
    static final class Call {
        final String name;
        final boolean act;
        final int whats;
        final Takes[] takes;
        private final ToIntBiFunction<CostChoices, int[]> made;

        private Call(String name, boolean act, int whats, ToIntBiFunction<CostChoices, int[]> made, Takes... takes) {
            this.name = name;
            this.act = act;
            this.whats = whats;
            this.made = made;
            this.takes = takes;
        }

        int on(CostChoices x, int... numbers) {
            return made.applyAsInt(x, numbers);
        }

        String told(int... numbers) {
            StringBuilder told = new StringBuilder(name).append('(');
            for (int k = 0; k < numbers.length; k++) {
                told.append(k == 0 ? "" : ", ").append(numbers[k]);
            }
            return told.append(')').toString();
        }
    }

    private static final Takes NODE = Takes.NODE, CHOICE = Takes.CHOICE, WHAT = Takes.WHAT;

    static final List<Call> ALL = List.of(
            new Call("write", true, 0, (x, n) -> x.write(n[0]), Takes.LETTER),
            new Call("wipe", true, 0, (x, n) -> x.wipe()),
            new Call("fault", false, 0, (x, n) -> x.fault()),
            new Call("lay", true, 0, (x, n) -> x.lay()),
            new Call("node", false, 4, (x, n) -> x.node(n[0], n[1]), NODE, WHAT),
            new Call("cost", false, 0, (x, n) -> x.cost(n[0], n[1]), NODE, CHOICE),
            new Call("tie", false, 0, (x, n) -> x.tie(n[0], n[1], n[2], n[3]), NODE, NODE, CHOICE, CHOICE),
            new Call("price", true, 0, (x, n) -> x.price(n[0], n[1], n[2]), NODE, CHOICE, Takes.OWN_COST),
            new Call("table", true, 0, (x, n) -> x.table(n[0], n[1], n[2], n[3], n[4]),
                    NODE, NODE, CHOICE, CHOICE, Takes.FIGURE),
            new Call("loose", true, 0, (x, n) -> x.loose(n[0], n[1]), NODE, NODE),
            new Call("pin", true, 0, (x, n) -> x.pin(n[0], n[1]), NODE, Takes.PIN),
            new Call("rename", true, 0, (x, n) -> x.rename(n[0], n[1]), NODE, Takes.KIND),
            new Call("undo", true, 0, (x, n) -> x.undo()),
            new Call("turn", false, 2, (x, n) -> x.turn(n[0], n[1]), NODE, WHAT),
            new Call("reduced", false, 0, (x, n) -> x.reduced(n[0]), NODE),
            new Call("plan", false, 2, (x, n) -> x.plan(n[0]), WHAT),
            new Call("least", false, 5, (x, n) -> x.least(n[0]), WHAT),
            new Call("first", false, 0, (x, n) -> x.first(n[0]), NODE),
            new Call("with", false, 0, (x, n) -> x.with(n[0], n[1]), NODE, CHOICE),
            new Call("without", false, 0, (x, n) -> x.without(n[0], n[1]), NODE, NODE),
            new Call("keep", true, 0, (x, n) -> x.keep()),
            new Call("back", true, 0, (x, n) -> x.back()),
            new Call("count", false, 6, (x, n) -> x.count(n[0]), WHAT));

    private Calls() {
    }
}
