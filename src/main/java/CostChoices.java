/**
 * An allocator by pairwise costs: nodes with choices, ties with tables, the graph reduced node by
 * node, and the same graph looked through by all plans. README.md says how it is used.
 */
public final class CostChoices {
    public static final int BAD = -1, NO = -2, FULL = -3, NONE = -4, NEVER = 1000000;

    private static final int TEXT_LIMIT = 200;
    private static final int NODE_LIMIT = 8;
    private static final int CHOICE_LIMIT = 4;
    private static final int TIE_LIMIT = 12;
    private static final int UNDO_LIMIT = 8;
    private static final int KEEP_LIMIT = 2;

    private static final int PAIR_LIMIT = NODE_LIMIT * (NODE_LIMIT - 1) / 2;
    private static final int TABLE_SIZE = CHOICE_LIMIT * CHOICE_LIMIT;

    private static final int PLAIN = 0, HEAVY = 1, TIMID = 2, STERN = 3;
    private static final int STERN_LIMIT = 20;
    private static final int OWN_NEVER = 99;
    private static final int TABLE_NEVER = 9;
    private static final int UNPINNED = -1;

    private static final int RULE_ONE = 1, RULE_TWO = 2, RULE_GUESS = 3;

    private static final String START = "n0,5,2,7;n1,3,1;n2,0,4;n0,6,6;n3,9,10,1;e0,1,019200;e0,2,300519;e1,2,0990;e2,3,0440;e3,4,102301;";

    private final char[] text = new char[TEXT_LIMIT];
    private int textLength;

    private final Graph graph = new Graph();
    private final Graph draft = new Graph();
    private final Reader reader = new Reader(text, draft);

    private final Graph[] past = new Graph[UNDO_LIMIT];
    private int pastCount;
    private final Graph[] kept = new Graph[KEEP_LIMIT];
    private int keptCount;

    private final Weights standing = new Weights();
    private final Weights altered = new Weights();
    private final Reduction reduction = new Reduction();
    private final Search search = new Search(standing, false);
    private final Search alteredSearch = new Search(altered, true);
    private boolean weighed;
    private boolean reductionRun;
    private boolean searchRun;

    public CostChoices() {
        for (int k = 0; k < UNDO_LIMIT; k++) {
            past[k] = new Graph();
        }
        for (int k = 0; k < KEEP_LIMIT; k++) {
            kept[k] = new Graph();
        }
        for (int k = 0; k < START.length(); k++) {
            write(START.charAt(k));
        }
        lay();
        wipe();
    }

    // ---- graphs

    public int write(int letter) {
        if (!isWithin(letter, 32, 126)) {
            return BAD;
        }
        if (textLength >= TEXT_LIMIT) {
            return FULL;
        }
        text[textLength] = (char) letter;
        textLength++;
        return textLength;
    }

    public int wipe() {
        int was = textLength;
        textLength = 0;
        return was;
    }

    public int fault() {
        return reader.read(textLength);
    }

    public int lay() {
        if (reader.read(textLength) != NONE || draft.nodes == 0) {
            return NO;
        }
        graph.copyFrom(draft);
        pastCount = 0;
        keptCount = 0;
        forgetAnswers();
        return graph.nodes;
    }

    public int node(int u, int what) {
        if (!isNode(u)) {
            return BAD;
        }
        switch (what) {
            case 0: return graph.kinds[u];
            case 1: return graph.choices[u];
            case 2: return Integer.bitCount(graph.mates[u]);
            case 3: return pinnedTo(u);
            default: return BAD;
        }
    }

    public int cost(int u, int i) {
        return isChoice(u, i) ? graph.choiceCost(u, i) : BAD;
    }

    public int tie(int u, int v, int i, int j) {
        if (u == v || !isChoice(u, i) || !isChoice(v, j)) {
            return BAD;
        }
        return graph.areTied(u, v) ? graph.tieCost(u, v, i, j) : NONE;
    }

    // ---- acts

    public int price(int u, int i, int c) {
        if (!isChoice(u, i) || !isWithin(c, 0, OWN_NEVER)) {
            return BAD;
        }
        int was = graph.own[choicePlace(u, i)];
        if (was == c) {
            return NO;
        }
        beginAct();
        graph.own[choicePlace(u, i)] = c;
        return was;
    }

    public int table(int u, int v, int i, int j, int c) {
        if (u == v || !isChoice(u, i) || !isChoice(v, j) || !isWithin(c, 0, TABLE_NEVER)) {
            return BAD;
        }
        boolean tied = graph.areTied(u, v);
        // Nodes that are not tied have no table yet, so a nought is news to them: it ties them.
        if (tied && graph.figures[entryPlace(u, v, i, j)] == c) {
            return NO;
        }
        if (!tied && graph.tieCount() >= TIE_LIMIT) {
            return FULL;
        }
        beginAct();
        if (!tied) {
            joinByNoughts(graph.mates, graph.figures, u, v);
        }
        int was = graph.figures[entryPlace(u, v, i, j)];
        graph.figures[entryPlace(u, v, i, j)] = c;
        return was;
    }

    public int loose(int u, int v) {
        if (!isNode(u) || !isNode(v)) {
            return BAD;
        }
        if (!graph.areTied(u, v)) {
            return NO;
        }
        beginAct();
        part(graph.mates, u, v);
        return graph.tieCount();
    }

    public int pin(int u, int i) {
        if (!isNode(u) || (i != UNPINNED && !isChoice(u, i))) {
            return BAD;
        }
        if (graph.pins[u] == i) {
            return NO;
        }
        int was = pinnedTo(u);
        beginAct();
        graph.pins[u] = i;
        return was;
    }

    public int rename(int u, int k) {
        if (!isNode(u) || !isWithin(k, PLAIN, STERN)) {
            return BAD;
        }
        int was = graph.kinds[u];
        if (was == k) {
            return NO;
        }
        beginAct();
        graph.kinds[u] = k;
        return was;
    }

    public int undo() {
        if (pastCount <= 0) {
            return NO;
        }
        pastCount--;
        graph.copyFrom(past[pastCount]);
        forgetAnswers();
        return pastCount;
    }

    // ---- reduced

    public int turn(int k, int what) {
        // There are as many turns as nodes.
        if (!isNode(k) || !isWithin(what, 0, 1)) {
            return BAD;
        }
        bringReduction();
        return what == 0 ? reduction.order[k] : reduction.rules[k];
    }

    public int reduced(int u) {
        if (!isNode(u)) {
            return BAD;
        }
        bringReduction();
        return reduction.taken[u];
    }

    public int plan(int what) {
        if (!isWithin(what, 0, 1)) {
            return BAD;
        }
        bringReduction();
        if (what == 0) {
            return standing.planCost(reduction.taken);
        }
        return reduction.guessed ? 0 : 1;
    }

    // ---- by all

    public int least(int what) {
        if (!isWithin(what, 0, 4)) {
            return BAD;
        }
        bringSearch();
        switch (what) {
            case 0: return search.best;
            case 1: return search.ways;
            case 2: return search.ways == 0 ? NONE : search.same;
            case 3: return search.next == NEVER ? NONE : search.next;
            default: return standing.bound();
        }
    }

    public int first(int u) {
        if (!isNode(u)) {
            return BAD;
        }
        bringSearch();
        return search.ways == 0 ? NONE : search.firstPlan[u];
    }

    public int with(int u, int i) {
        if (!isChoice(u, i)) {
            return BAD;
        }
        altered.weigh(graph);
        altered.allowOnly(u, i);
        alteredSearch.run();
        return alteredSearch.best;
    }

    public int without(int u, int v) {
        if (!isNode(u) || !isNode(v)) {
            return BAD;
        }
        if (!graph.areTied(u, v)) {
            return NONE;
        }
        altered.weigh(graph);
        part(altered.mates, u, v);
        alteredSearch.run();
        return alteredSearch.best;
    }

    // ---- kept

    public int keep() {
        if (keptCount >= KEEP_LIMIT) {
            return FULL;
        }
        kept[keptCount].copyFrom(graph);
        keptCount++;
        return keptCount;
    }

    public int back() {
        if (keptCount <= 0) {
            return NO;
        }
        keptCount--;
        graph.copyFrom(kept[keptCount]);
        pastCount = 0;
        forgetAnswers();
        return keptCount;
    }

    public int count(int what) {
        switch (what) {
            case 0: return graph.nodes;
            case 1: return graph.tieCount();
            case 2: return graph.pinCount();
            case 3: return pastCount;
            case 4: return keptCount;
            case 5: return textLength;
            default: return BAD;
        }
    }

    // ---- inside

    private boolean isNode(int u) {
        return isWithin(u, 0, graph.nodes - 1);
    }

    private boolean isChoice(int u, int i) {
        return isNode(u) && isWithin(i, 0, graph.choices[u] - 1);
    }

    private int pinnedTo(int u) {
        return graph.pins[u] == UNPINNED ? NONE : graph.pins[u];
    }

    /** Called when an act is sure to be carried out, ahead of its change. */
    private void beginAct() {
        if (pastCount >= UNDO_LIMIT) {
            dropOldest();
        }
        past[pastCount].copyFrom(graph);
        pastCount++;
        forgetAnswers();
    }

    private void dropOldest() {
        // The oldest graph's rows go to the other end, to be used again.
        Graph oldest = past[0];
        for (int k = 1; k < UNDO_LIMIT; k++) {
            past[k - 1] = past[k];
        }
        past[UNDO_LIMIT - 1] = oldest;
        pastCount = UNDO_LIMIT - 1;
    }

    private void forgetAnswers() {
        weighed = false;
        reductionRun = false;
        searchRun = false;
    }

    private void bringWeights() {
        if (!weighed) {
            standing.weigh(graph);
            weighed = true;
        }
    }

    private void bringReduction() {
        bringWeights();
        if (!reductionRun) {
            reduction.run(graph);
            reductionRun = true;
        }
    }

    private void bringSearch() {
        bringWeights();
        if (!searchRun) {
            search.run();
            searchRun = true;
        }
    }

    private static boolean isWithin(int number, int low, int high) {
        return low <= number && number <= high;
    }

    private static int capped(int sum) {
        return Math.min(sum, NEVER);
    }

    private static int choicePlace(int u, int i) {
        return u * CHOICE_LIMIT + i;
    }

    /** A table stands once, by its lower node's choices: the two ways to ask for it meet here. */
    private static int entryPlace(int u, int v, int i, int j) {
        if (u < v) {
            return (v * (v - 1) / 2 + u) * TABLE_SIZE + i * CHOICE_LIMIT + j;
        }
        return (u * (u - 1) / 2 + v) * TABLE_SIZE + j * CHOICE_LIMIT + i;
    }

    private static boolean hasBit(int bits, int u) {
        return ((bits >> u) & 1) != 0;
    }

    private static void joinByNoughts(int[] mates, int[] entries, int u, int v) {
        mates[u] |= 1 << v;
        mates[v] |= 1 << u;
        int place = entryPlace(u, v, 0, 0);
        for (int k = 0; k < TABLE_SIZE; k++) {
            entries[place + k] = 0;
        }
    }

    private static void part(int[] mates, int u, int v) {
        mates[u] &= ~(1 << v);
        mates[v] &= ~(1 << u);
    }

    private static void copyRow(int[] from, int[] to) {
        System.arraycopy(from, 0, to, 0, Math.min(from.length, to.length));
    }

    /** A graph as it is told: figures, not yet what they cost. */
    private static final class Graph {
        int nodes;
        final int[] choices = new int[NODE_LIMIT];
        final int[] kinds = new int[NODE_LIMIT];
        final int[] pins = new int[NODE_LIMIT];
        /** For each node, as bits, the nodes that it is tied to. */
        final int[] mates = new int[NODE_LIMIT];
        final int[] own = new int[NODE_LIMIT * CHOICE_LIMIT];
        final int[] figures = new int[PAIR_LIMIT * TABLE_SIZE];

        void copyFrom(Graph other) {
            nodes = other.nodes;
            copyRow(other.choices, choices);
            copyRow(other.kinds, kinds);
            copyRow(other.pins, pins);
            copyRow(other.mates, mates);
            copyRow(other.own, own);
            copyRow(other.figures, figures);
        }

        void addNode(int kind, int choiceCount) {
            kinds[nodes] = kind;
            choices[nodes] = choiceCount;
            pins[nodes] = UNPINNED;
            mates[nodes] = 0;
            nodes++;
        }

        boolean areTied(int u, int v) {
            return hasBit(mates[u], v);
        }

        int tieCount() {
            int ends = 0;
            for (int u = 0; u < nodes; u++) {
                ends += Integer.bitCount(mates[u]);
            }
            return ends / 2;
        }

        int pinCount() {
            int pinned = 0;
            for (int u = 0; u < nodes; u++) {
                if (pins[u] != UNPINNED) {
                    pinned++;
                }
            }
            return pinned;
        }

        int choiceCost(int u, int i) {
            if (pins[u] != UNPINNED && pins[u] != i) {
                return NEVER;
            }
            int told = own[choicePlace(u, i)];
            int plain = told == OWN_NEVER ? NEVER : told;
            switch (kinds[u]) {
                case HEAVY: return capped(2 * plain);
                case TIMID: return capped(plain + i);
                case STERN: return 2 * plain > STERN_LIMIT ? NEVER : 2 * plain;
                default: return plain;
            }
        }

        int tieCost(int u, int v, int i, int j) {
            int told = figures[entryPlace(u, v, i, j)];
            return told == TABLE_NEVER ? NEVER : told;
        }
    }

    /** Reads a text, item by item, into a graph. */
    private static final class Reader {
        private final char[] letters;
        private final Graph into;
        private int length;
        private int at;

        Reader(char[] letters, Graph into) {
            this.letters = letters;
            this.into = into;
        }

        /** The place of the first fault, or NONE; with a fault the graph is of no use. */
        int read(int textLength) {
            length = Math.min(textLength, letters.length);
            at = 0;
            into.nodes = 0;
            for (int items = 0; items < TEXT_LIMIT && at < length; items++) {
                int start = at;
                if (!readItem()) {
                    return start;
                }
            }
            return NONE;
        }

        private boolean readItem() {
            if (takes('n')) {
                return readNode();
            }
            return takes('e') && readTie();
        }

        private boolean readNode() {
            int u = into.nodes;
            int kind = readNumber();
            if (u >= NODE_LIMIT || !isWithin(kind, PLAIN, STERN)) {
                return false;
            }
            int choiceCount = 0;
            for (int i = 0; i < CHOICE_LIMIT && takes(','); i++) {
                int own = readNumber();
                if (own < 0) {
                    return false;
                }
                into.own[choicePlace(u, i)] = own;
                choiceCount++;
            }
            if (choiceCount == 0 || !takes(';')) {
                return false;
            }
            into.addNode(kind, choiceCount);
            return true;
        }

        private boolean readTie() {
            int u = readNumber();
            if (u < 0 || !takes(',')) {
                return false;
            }
            int v = readNumber();
            if (v <= u || v >= into.nodes || !takes(',')) {
                return false;
            }
            if (into.areTied(u, v) || into.tieCount() >= TIE_LIMIT) {
                return false;
            }
            joinByNoughts(into.mates, into.figures, u, v);
            return readTable(u, v) && takes(';');
        }

        private boolean readTable(int u, int v) {
            for (int i = 0; i < into.choices[u]; i++) {
                for (int j = 0; j < into.choices[v]; j++) {
                    int figure = readFigure();
                    if (figure < 0) {
                        return false;
                    }
                    into.figures[entryPlace(u, v, i, j)] = figure;
                }
            }
            return true;
        }

        private boolean takes(char letter) {
            if (at >= length || letters[at] != letter) {
                return false;
            }
            at++;
            return true;
        }

        /** One or two figures, or -1 where there is none. */
        private int readNumber() {
            int number = readFigure();
            if (number < 0) {
                return -1;
            }
            int second = readFigure();
            return second < 0 ? number : number * 10 + second;
        }

        private int readFigure() {
            if (at >= length || letters[at] < '0' || letters[at] > '9') {
                return -1;
            }
            int figure = letters[at] - '0';
            at++;
            return figure;
        }
    }

    /** What all of a graph costs, kinds and pins reckoned in: a copy that may be worked on. */
    private static final class Weights {
        int nodes;
        final int[] choices = new int[NODE_LIMIT];
        final int[] mates = new int[NODE_LIMIT];
        final int[] costs = new int[NODE_LIMIT * CHOICE_LIMIT];
        final int[] entries = new int[PAIR_LIMIT * TABLE_SIZE];

        void weigh(Graph graph) {
            nodes = graph.nodes;
            copyRow(graph.choices, choices);
            copyRow(graph.mates, mates);
            for (int u = 0; u < nodes; u++) {
                for (int i = 0; i < choices[u]; i++) {
                    costs[choicePlace(u, i)] = graph.choiceCost(u, i);
                }
                for (int v = 0; v < u; v++) {
                    if (areTied(u, v)) {
                        weighTable(graph, u, v);
                    }
                }
            }
        }

        private void weighTable(Graph graph, int u, int v) {
            for (int i = 0; i < choices[u]; i++) {
                for (int j = 0; j < choices[v]; j++) {
                    entries[entryPlace(u, v, i, j)] = graph.tieCost(u, v, i, j);
                }
            }
        }

        boolean areTied(int u, int v) {
            return hasBit(mates[u], v);
        }

        int costAt(int u, int i) {
            return costs[choicePlace(u, i)];
        }

        int entryAt(int u, int v, int i, int j) {
            return entries[entryPlace(u, v, i, j)];
        }

        void addCost(int u, int i, int more) {
            int place = choicePlace(u, i);
            costs[place] = capped(costs[place] + more);
        }

        void addEntry(int u, int v, int i, int j, int more) {
            int place = entryPlace(u, v, i, j);
            entries[place] = capped(entries[place] + more);
        }

        void allowOnly(int u, int i) {
            for (int other = 0; other < choices[u]; other++) {
                if (other != i) {
                    costs[choicePlace(u, other)] = NEVER;
                }
            }
        }

        /** What u costs at i together with its ties to those of the others whose plan stands. */
        int costBeside(int u, int i, int others, int[] plan) {
            int sum = costs[choicePlace(u, i)];
            if (others == 0) {
                return sum;
            }
            for (int v = 0; v < nodes && others >> v != 0; v++) {
                if (hasBit(others, v)) {
                    sum += entries[entryPlace(u, v, i, plan[v])];
                }
            }
            return capped(sum);
        }

        int planCost(int[] plan) {
            int sum = 0;
            for (int u = 0; u < nodes; u++) {
                sum = capped(sum + costBeside(u, plan[u], matesBelow(u), plan));
            }
            return sum;
        }

        /** With these alone each tie is counted once, at its higher node. */
        int matesBelow(int u) {
            return mates[u] & ((1 << u) - 1);
        }

        /** The least that v and its tie to u cost together, u being at i. */
        int leastAcross(int u, int i, int v) {
            int least = NEVER;
            for (int j = 0; j < choices[v]; j++) {
                int sum = costs[choicePlace(v, j)] + entries[entryPlace(u, v, i, j)];
                least = Math.min(least, sum);
            }
            return least;
        }

        int leastCost(int u) {
            int least = NEVER;
            for (int i = 0; i < choices[u]; i++) {
                least = Math.min(least, costAt(u, i));
            }
            return least;
        }

        int leastEntry(int u, int v) {
            int least = NEVER;
            for (int i = 0; i < choices[u]; i++) {
                for (int j = 0; j < choices[v]; j++) {
                    least = Math.min(least, entryAt(u, v, i, j));
                }
            }
            return least;
        }

        int bound() {
            int sum = 0;
            for (int u = 0; u < nodes; u++) {
                sum = capped(sum + leastCost(u));
                for (int v = 0; v < u; v++) {
                    if (areTied(u, v)) {
                        sum = capped(sum + leastEntry(u, v));
                    }
                }
            }
            return sum;
        }
    }

    /** The graph reduced, node by node, and the plan read off backwards. */
    private static final class Reduction {
        final int[] order = new int[NODE_LIMIT];
        final int[] rules = new int[NODE_LIMIT];
        final int[] taken = new int[NODE_LIMIT];
        boolean guessed;
        /** For each turn, as bits, those that its node was tied to then. */
        private final int[] besides = new int[NODE_LIMIT];
        private final Weights weights = new Weights();
        private int left;

        void run(Graph graph) {
            weights.weigh(graph);
            guessed = false;
            left = (1 << weights.nodes) - 1;
            for (int k = 0; k < weights.nodes; k++) {
                int u = nextNode();
                left &= ~(1 << u);
                order[k] = u;
                besides[k] = matesLeft(u);
                rules[k] = Math.min(Integer.bitCount(besides[k]), RULE_GUESS);
                int v = Integer.numberOfTrailingZeros(besides[k]);
                if (rules[k] == RULE_ONE) {
                    foldIntoOne(u, v);
                } else if (rules[k] == RULE_TWO) {
                    foldIntoTwo(u, v, Integer.numberOfTrailingZeros(besides[k] & ~(1 << v)));
                } else if (rules[k] == RULE_GUESS) {
                    guess(u, besides[k]);
                }
            }
            readOff();
        }

        private int matesLeft(int u) {
            return weights.mates[u] & left;
        }

        private int nextNode() {
            int ahead = -1;
            int behind = -1;
            for (int u = 0; u < weights.nodes; u++) {
                if (hasBit(left, u)) {
                    ahead = ahead < 0 || comesAhead(u, ahead) ? u : ahead;
                    behind = behind < 0 || comesAhead(behind, u) ? u : behind;
                }
            }
            // Some node is always left here; node 0 is but a safe index.
            if (ahead < 0 || behind < 0) {
                return 0;
            }
            return Integer.bitCount(matesLeft(ahead)) <= RULE_TWO ? ahead : behind;
        }

        private boolean comesAhead(int u, int v) {
            int mine = Integer.bitCount(matesLeft(u));
            int other = Integer.bitCount(matesLeft(v));
            if (mine != other) {
                return mine < other;
            }
            if (weights.choices[u] != weights.choices[v]) {
                return weights.choices[u] < weights.choices[v];
            }
            return u < v;
        }

        private void foldIntoOne(int u, int v) {
            for (int j = 0; j < weights.choices[v]; j++) {
                int least = NEVER;
                for (int i = 0; i < weights.choices[u]; i++) {
                    least = Math.min(least, weights.costAt(u, i) + weights.entryAt(u, v, i, j));
                }
                weights.addCost(v, j, least);
            }
        }

        private void foldIntoTwo(int u, int v, int w) {
            if (!weights.areTied(v, w)) {
                joinByNoughts(weights.mates, weights.entries, v, w);
            }
            for (int j = 0; j < weights.choices[v]; j++) {
                for (int k = 0; k < weights.choices[w]; k++) {
                    int least = NEVER;
                    for (int i = 0; i < weights.choices[u]; i++) {
                        int ties = weights.entryAt(u, v, i, j) + weights.entryAt(u, w, i, k);
                        least = Math.min(least, weights.costAt(u, i) + ties);
                    }
                    weights.addEntry(v, w, j, k, least);
                }
            }
        }

        private void guess(int u, int beside) {
            guessed = true;
            int choice = 0;
            int least = outlook(u, 0, beside);
            for (int i = 1; i < weights.choices[u]; i++) {
                int sum = outlook(u, i, beside);
                if (sum < least) {
                    least = sum;
                    choice = i;
                }
            }
            taken[u] = choice;
            for (int v = 0; v < weights.nodes; v++) {
                if (hasBit(beside, v)) {
                    for (int j = 0; j < weights.choices[v]; j++) {
                        weights.addCost(v, j, weights.entryAt(u, v, choice, j));
                    }
                }
            }
        }

        private int outlook(int u, int i, int beside) {
            int sum = weights.costAt(u, i);
            for (int v = 0; v < weights.nodes; v++) {
                if (hasBit(beside, v)) {
                    sum = capped(sum + weights.leastAcross(u, i, v));
                }
            }
            return sum;
        }

        private void readOff() {
            // A node that was left out is not touched again, so the weights still tell what it
            // and its ties cost when its turn came.
            for (int k = weights.nodes - 1; k >= 0; k--) {
                if (rules[k] != RULE_GUESS) {
                    taken[order[k]] = firstLeast(order[k], besides[k]);
                }
            }
        }

        private int firstLeast(int u, int beside) {
            int choice = 0;
            int least = weights.costBeside(u, 0, beside, taken);
            for (int i = 1; i < weights.choices[u]; i++) {
                int sum = weights.costBeside(u, i, beside, taken);
                if (sum < least) {
                    least = sum;
                    choice = i;
                }
            }
            return choice;
        }
    }

    /** All plans, looked through in the order of the lowest choices first. */
    private static final class Search {
        int best;
        int next;
        int ways;
        int same;
        final int[] firstPlan = new int[NODE_LIMIT];
        private final int[] chosen = new int[NODE_LIMIT];
        /** What the nodes from here on cost at the very least, ties left aside. */
        private final int[] rest = new int[NODE_LIMIT + 1];
        private final Weights weights;
        /** Whether nothing but the best is asked: then what is as good can be passed over. */
        private final boolean bestAlone;

        Search(Weights weights, boolean bestAlone) {
            this.weights = weights;
            this.bestAlone = bestAlone;
        }

        void run() {
            best = NEVER;
            next = NEVER;
            ways = 0;
            same = 0;
            rest[weights.nodes] = 0;
            for (int u = weights.nodes - 1; u >= 0; u--) {
                rest[u] = capped(rest[u + 1] + weights.leastCost(u));
            }
            tryFrom(0, 0);
        }

        private void tryFrom(int u, int sum) {
            if (u >= weights.nodes || u >= NODE_LIMIT) {
                takeIn(sum);
                return;
            }
            int below = weights.matesBelow(u);
            for (int i = 0; i < weights.choices[u]; i++) {
                int more = sum + weights.costBeside(u, i, below, chosen);
                // A plan that can not be below the next least says nothing that is asked.
                if (more + rest[u + 1] < next) {
                    chosen[u] = i;
                    tryFrom(u + 1, more);
                }
            }
        }

        private void takeIn(int sum) {
            if (sum < best) {
                next = bestAlone ? sum : best;
                best = sum;
                ways = 1;
                same = (1 << weights.nodes) - 1;
                copyRow(chosen, firstPlan);
            } else if (sum == best) {
                ways++;
                same &= likeFirst();
            } else {
                next = sum;
            }
        }

        private int likeFirst() {
            int bits = 0;
            for (int u = 0; u < weights.nodes; u++) {
                if (chosen[u] == firstPlan[u]) {
                    bits |= 1 << u;
                }
            }
            return bits;
        }
    }
}
