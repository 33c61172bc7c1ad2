import java.util.ArrayDeque;
import java.util.ArrayList;
import java.util.Deque;
import java.util.List;
import java.util.Map;
import java.util.TreeMap;
import java.util.regex.Matcher;
import java.util.regex.Pattern;

/** The document once more, written another way and without a thought of speed or room. */
final class Model {
    static final int BAD = -1, NO = -2, FULL = -3, NONE = -4, NEVER = 1000000;
    private static final Pattern NODE = Pattern.compile("n([0-9]{1,2})((?:,[0-9]{1,2}){1,4});");
    private static final Pattern TIE = Pattern.compile("e([0-9]{1,2}),([0-9]{1,2}),([0-9]+);");

    /** A tie's key is lower * 10 + higher. */
    private static final class State {
        final List<int[]> own = new ArrayList<>();
        final List<int[]> kindAndPin = new ArrayList<>();
        final Map<Integer, int[][]> ties = new TreeMap<>();

        State copy() {
            State other = new State();
            own.forEach(row -> other.own.add(row.clone()));
            kindAndPin.forEach(row -> other.kindAndPin.add(row.clone()));
            ties.forEach((key, table) -> other.ties.put(key, copyOf(table)));
            return other;
        }
    }

    private String text = "";
    private State state;
    private final Deque<State> past = new ArrayDeque<>();
    private final Deque<State> kept = new ArrayDeque<>();

    private final List<Integer> order = new ArrayList<>();
    private final List<Integer> rules = new ArrayList<>();
    private int[] taken;

    Model() {
        text = "n0,5,2,7;n1,3,1;n2,0,4;n0,6,6;n3,9,10,1;e0,1,019200;e0,2,300519;e1,2,0990;e2,3,0440;e3,4,102301;";
        lay();
        text = "";
    }

    private static int[][] copyOf(int[][] table) {
        int[][] other = new int[table.length][];
        for (int i = 0; i < table.length; i++) {
            other[i] = table[i].clone();
        }
        return other;
    }

    // ---- graphs

    int write(int letter) {
        if (letter < 32 || letter > 126) {
            return BAD;
        }
        if (text.length() == 200) {
            return FULL;
        }
        text += (char) letter;
        return text.length();
    }

    int wipe() {
        int was = text.length();
        text = "";
        return was;
    }

    int fault() {
        return parse(new State());
    }

    private int parse(State s) {
        int at = 0;
        while (at < text.length()) {
            String rest = text.substring(at);
            Matcher n = NODE.matcher(rest);
            Matcher e = TIE.matcher(rest);
            if (n.lookingAt() && nodeRead(s, n)) {
                at += n.end();
            } else if (e.lookingAt() && tieRead(s, e)) {
                at += e.end();
            } else {
                return at;
            }
        }
        return NONE;
    }

    private static boolean nodeRead(State s, Matcher m) {
        int kind = Integer.parseInt(m.group(1));
        if (kind > 3 || s.own.size() == 8) {
            return false;
        }
        String[] parts = m.group(2).substring(1).split(",");
        int[] own = new int[parts.length];
        for (int i = 0; i < own.length; i++) {
            own[i] = Integer.parseInt(parts[i]);
        }
        s.own.add(own);
        s.kindAndPin.add(new int[] {kind, -1});
        return true;
    }

    private static boolean tieRead(State s, Matcher m) {
        int u = Integer.parseInt(m.group(1));
        int v = Integer.parseInt(m.group(2));
        if (u >= v || v >= s.own.size() || s.ties.size() == 12 || s.ties.containsKey(u * 10 + v)) {
            return false;
        }
        int rows = s.own.get(u).length;
        int columns = s.own.get(v).length;
        if (m.group(3).length() != rows * columns) {
            return false;
        }
        int[][] table = new int[rows][columns];
        for (int k = 0; k < rows * columns; k++) {
            table[k / columns][k % columns] = m.group(3).charAt(k) - '0';
        }
        s.ties.put(u * 10 + v, table);
        return true;
    }

    int lay() {
        State s = new State();
        if (parse(s) != NONE || s.own.isEmpty()) {
            return NO;
        }
        state = s;
        past.clear();
        kept.clear();
        return s.own.size();
    }

    private int size() {
        return state.own.size();
    }

    private boolean isNode(int u) {
        return u >= 0 && u < size();
    }

    private boolean isChoice(int u, int i) {
        return isNode(u) && i >= 0 && i < state.own.get(u).length;
    }

    private static int key(int u, int v) {
        return Math.min(u, v) * 10 + Math.max(u, v);
    }

    private boolean tied(int u, int v) {
        return state.ties.containsKey(key(u, v));
    }

    int node(int u, int what) {
        if (!isNode(u) || what < 0 || what > 3) {
            return BAD;
        }
        int degree = 0;
        for (int v = 0; v < size(); v++) {
            degree += v != u && tied(u, v) ? 1 : 0;
        }
        int pin = state.kindAndPin.get(u)[1];
        return new int[] {state.kindAndPin.get(u)[0], state.own.get(u).length, degree, pin < 0 ? NONE : pin}[what];
    }

    int cost(int u, int i) {
        return isChoice(u, i) ? weight(state, u, i) : BAD;
    }

    private static int weight(State s, int u, int i) {
        int kind = s.kindAndPin.get(u)[0];
        int pin = s.kindAndPin.get(u)[1];
        int own = s.own.get(u)[i];
        if (own == 99 || (pin >= 0 && pin != i)) {
            return NEVER;
        }
        if (kind == 0) {
            return own;
        }
        if (kind == 2) {
            return own + i;
        }
        return kind == 3 && own > 10 ? NEVER : own * 2;
    }

    private static int entry(State s, int u, int v, int i, int j) {
        int[][] table = s.ties.get(key(u, v));
        int figure = u < v ? table[i][j] : table[j][i];
        return figure == 9 ? NEVER : figure;
    }

    int tie(int u, int v, int i, int j) {
        if (u == v || !isChoice(u, i) || !isChoice(v, j)) {
            return BAD;
        }
        return tied(u, v) ? entry(state, u, v, i, j) : NONE;
    }

    // ---- acts

    private void save() {
        past.push(state.copy());
        if (past.size() > 8) {
            past.removeLast();
        }
    }

    int price(int u, int i, int c) {
        if (!isChoice(u, i) || c < 0 || c > 99) {
            return BAD;
        }
        int was = state.own.get(u)[i];
        if (was == c) {
            return NO;
        }
        save();
        state.own.get(u)[i] = c;
        return was;
    }

    int table(int u, int v, int i, int j, int c) {
        if (u > v) {
            return table(v, u, j, i, c);
        }
        if (u == v || !isChoice(u, i) || !isChoice(v, j) || c < 0 || c > 9) {
            return BAD;
        }
        if (tied(u, v) && state.ties.get(key(u, v))[i][j] == c) {
            return NO;
        }
        if (!tied(u, v) && state.ties.size() == 12) {
            return FULL;
        }
        save();
        state.ties.computeIfAbsent(key(u, v), k -> new int[state.own.get(u).length][state.own.get(v).length]);
        int was = state.ties.get(key(u, v))[i][j];
        state.ties.get(key(u, v))[i][j] = c;
        return was;
    }

    int loose(int u, int v) {
        if (!isNode(u) || !isNode(v)) {
            return BAD;
        }
        if (!tied(u, v)) {
            return NO;
        }
        save();
        state.ties.remove(key(u, v));
        return state.ties.size();
    }

    int pin(int u, int i) {
        if (!isNode(u) || (i != -1 && !isChoice(u, i))) {
            return BAD;
        }
        int was = state.kindAndPin.get(u)[1];
        if (was == i) {
            return NO;
        }
        save();
        state.kindAndPin.get(u)[1] = i;
        return was < 0 ? NONE : was;
    }

    int rename(int u, int k) {
        if (!isNode(u) || k < 0 || k > 3) {
            return BAD;
        }
        int was = state.kindAndPin.get(u)[0];
        if (was == k) {
            return NO;
        }
        save();
        state.kindAndPin.get(u)[0] = k;
        return was;
    }

    int undo() {
        if (past.isEmpty()) {
            return NO;
        }
        state = past.pop();
        return past.size();
    }

    // ---- reduced: what is left is held in maps, what was left out is copied as it was then

    private static int cap(long sum) {
        return sum >= NEVER ? NEVER : (int) sum;
    }

    private static List<Integer> around(Map<Integer, int[][]> ties, int u, Map<Integer, int[]> left) {
        List<Integer> found = new ArrayList<>();
        for (int v : left.keySet()) {
            if (v != u && ties.containsKey(key(u, v))) {
                found.add(v);
            }
        }
        return found;
    }

    private static int at(Map<Integer, int[][]> ties, int u, int v, int i, int j) {
        int[][] table = ties.get(key(u, v));
        return u < v ? table[i][j] : table[j][i];
    }

    private void reduce() {
        Map<Integer, int[]> left = new TreeMap<>();
        Map<Integer, int[][]> ties = new TreeMap<>();
        for (int u = 0; u < size(); u++) {
            int[] row = new int[state.own.get(u).length];
            for (int i = 0; i < row.length; i++) {
                row[i] = weight(state, u, i);
            }
            left.put(u, row);
        }
        state.ties.forEach((key, table) -> {
            int[][] costs = copyOf(table);
            for (int[] row : costs) {
                for (int j = 0; j < row.length; j++) {
                    row[j] = row[j] == 9 ? NEVER : row[j];
                }
            }
            ties.put(key, costs);
        });
        order.clear();
        rules.clear();
        taken = new int[size()];
        List<int[]> rows = new ArrayList<>();
        List<Map<Integer, int[][]>> tables = new ArrayList<>();
        List<List<Integer>> mates = new ArrayList<>();
        while (!left.isEmpty()) {
            List<Integer> queue = new ArrayList<>(left.keySet());
            queue.sort((a, b) -> {
                int byTies = around(ties, a, left).size() - around(ties, b, left).size();
                int byChoices = left.get(a).length - left.get(b).length;
                return byTies != 0 ? byTies : byChoices != 0 ? byChoices : a - b;
            });
            int u = queue.get(0);
            if (around(ties, u, left).size() > 2) {
                u = queue.get(queue.size() - 1);
            }
            List<Integer> mine = around(ties, u, left);
            order.add(u);
            rules.add(Math.min(3, mine.size()));
            rows.add(left.get(u).clone());
            Map<Integer, int[][]> then = new TreeMap<>();
            ties.forEach((key, table) -> then.put(key, copyOf(table)));
            tables.add(then);
            mates.add(mine);
            leaveOut(u, mine, left, ties);
        }
        for (int k = size() - 1; k >= 0; k--) {
            int u = order.get(k);
            if (rules.get(k) == 3) {
                continue;
            }
            int best = Integer.MAX_VALUE;
            for (int i = 0; i < rows.get(k).length; i++) {
                long sum = rows.get(k)[i];
                for (int v : mates.get(k)) {
                    sum += at(tables.get(k), u, v, i, taken[v]);
                }
                if (cap(sum) < best) {
                    best = cap(sum);
                    taken[u] = i;
                }
            }
        }
    }

    private void leaveOut(int u, List<Integer> mine, Map<Integer, int[]> left, Map<Integer, int[][]> ties) {
        int[] row = left.get(u);
        if (mine.size() == 1) {
            int v = mine.get(0);
            for (int j = 0; j < left.get(v).length; j++) {
                int best = NEVER;
                for (int i = 0; i < row.length; i++) {
                    best = Math.min(best, cap((long) row[i] + at(ties, u, v, i, j)));
                }
                left.get(v)[j] = cap((long) left.get(v)[j] + best);
            }
        } else if (mine.size() == 2) {
            int v = mine.get(0);
            int w = mine.get(1);
            ties.computeIfAbsent(key(v, w), k -> new int[left.get(v).length][left.get(w).length]);
            for (int j = 0; j < left.get(v).length; j++) {
                for (int k = 0; k < left.get(w).length; k++) {
                    int best = NEVER;
                    for (int i = 0; i < row.length; i++) {
                        best = Math.min(best, cap((long) row[i] + at(ties, u, v, i, j) + at(ties, u, w, i, k)));
                    }
                    ties.get(key(v, w))[j][k] = cap((long) ties.get(key(v, w))[j][k] + best);
                }
            }
        } else if (mine.size() > 2) {
            int best = Integer.MAX_VALUE;
            for (int i = 0; i < row.length; i++) {
                long sum = row[i];
                for (int v : mine) {
                    int across = NEVER;
                    for (int j = 0; j < left.get(v).length; j++) {
                        across = Math.min(across, cap((long) left.get(v)[j] + at(ties, u, v, i, j)));
                    }
                    sum += across;
                }
                if (cap(sum) < best) {
                    best = cap(sum);
                    taken[u] = i;
                }
            }
            for (int v : mine) {
                for (int j = 0; j < left.get(v).length; j++) {
                    left.get(v)[j] = cap((long) left.get(v)[j] + at(ties, u, v, taken[u], j));
                }
            }
        }
        left.remove(u);
        ties.keySet().removeIf(key -> key / 10 == u || key % 10 == u);
    }

    int turn(int k, int what) {
        if (!isNode(k) || what < 0 || what > 1) {
            return BAD;
        }
        reduce();
        return what == 0 ? order.get(k) : rules.get(k);
    }

    int reduced(int u) {
        if (!isNode(u)) {
            return BAD;
        }
        reduce();
        return taken[u];
    }

    int plan(int what) {
        if (what < 0 || what > 1) {
            return BAD;
        }
        reduce();
        return what == 0 ? planCost(state, taken) : rules.contains(3) ? 0 : 1;
    }

    // ---- by all

    private static int planCost(State s, int[] plan) {
        long sum = 0;
        for (int u = 0; u < plan.length; u++) {
            sum += weight(s, u, plan[u]);
        }
        for (int key : s.ties.keySet()) {
            sum += entry(s, key / 10, key % 10, plan[key / 10], plan[key % 10]);
        }
        return cap(sum);
    }

    /** All plans, the choice of node 0 turning slowest. */
    private static List<int[]> plans(State s) {
        List<int[]> found = new ArrayList<>();
        int all = 1;
        for (int[] row : s.own) {
            all *= row.length;
        }
        for (int k = 0; k < all; k++) {
            int[] plan = new int[s.own.size()];
            int rest = k;
            for (int u = plan.length - 1; u >= 0; u--) {
                plan[u] = rest % s.own.get(u).length;
                rest /= s.own.get(u).length;
            }
            found.add(plan);
        }
        return found;
    }

    private static int leastOf(State s) {
        int least = NEVER;
        for (int[] plan : plans(s)) {
            least = Math.min(least, planCost(s, plan));
        }
        return least;
    }

    private List<int[]> bestPlans() {
        int least = leastOf(state);
        List<int[]> found = new ArrayList<>();
        for (int[] plan : plans(state)) {
            if (least < NEVER && planCost(state, plan) == least) {
                found.add(plan);
            }
        }
        return found;
    }

    int least(int what) {
        switch (what) {
            case 0: return leastOf(state);
            case 1: return bestPlans().size();
            case 2: return same();
            case 3: return next();
            case 4: return bound();
            default: return BAD;
        }
    }

    private int same() {
        List<int[]> best = bestPlans();
        if (best.isEmpty()) {
            return NONE;
        }
        int bits = 0;
        for (int u = 0; u < size(); u++) {
            int node = u;
            if (best.stream().allMatch(plan -> plan[node] == best.get(0)[node])) {
                bits += 1 << u;
            }
        }
        return bits;
    }

    private int next() {
        int least = leastOf(state);
        int next = NEVER;
        for (int[] plan : plans(state)) {
            int sum = planCost(state, plan);
            if (sum > least && sum < next) {
                next = sum;
            }
        }
        return next == NEVER ? NONE : next;
    }

    private int bound() {
        long sum = 0;
        for (int u = 0; u < size(); u++) {
            int least = NEVER;
            for (int i = 0; i < state.own.get(u).length; i++) {
                least = Math.min(least, weight(state, u, i));
            }
            sum += least;
        }
        for (int[][] table : state.ties.values()) {
            int least = 9;
            for (int[] row : table) {
                for (int figure : row) {
                    least = Math.min(least, figure);
                }
            }
            sum += least == 9 ? NEVER : least;
        }
        return cap(sum);
    }

    int first(int u) {
        if (!isNode(u)) {
            return BAD;
        }
        List<int[]> best = bestPlans();
        return best.isEmpty() ? NONE : best.get(0)[u];
    }

    int with(int u, int i) {
        if (!isChoice(u, i)) {
            return BAD;
        }
        int least = NEVER;
        for (int[] plan : plans(state)) {
            if (plan[u] == i) {
                least = Math.min(least, planCost(state, plan));
            }
        }
        return least;
    }

    int without(int u, int v) {
        if (!isNode(u) || !isNode(v)) {
            return BAD;
        }
        if (!tied(u, v)) {
            return NONE;
        }
        State s = state.copy();
        s.ties.remove(key(u, v));
        return leastOf(s);
    }

    // ---- kept

    int keep() {
        if (kept.size() == 2) {
            return FULL;
        }
        kept.push(state.copy());
        return kept.size();
    }

    int back() {
        if (kept.isEmpty()) {
            return NO;
        }
        state = kept.pop();
        past.clear();
        return kept.size();
    }

    int count(int what) {
        int pinned = 0;
        for (int[] row : state.kindAndPin) {
            pinned += row[1] >= 0 ? 1 : 0;
        }
        int[] counts = {size(), state.ties.size(), pinned, past.size(), kept.size(), text.length()};
        return what < 0 || what > 5 ? BAD : counts[what];
    }
}
