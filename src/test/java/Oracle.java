import java.math.BigInteger;
import java.util.ArrayList;
import java.util.HashMap;
import java.util.HashSet;
import java.util.List;
import java.util.Map;
import java.util.NoSuchElementException;
import java.util.Set;

/**
 * The document once more, by other means: trees as objects, put in order by a comparison written
 * from the Terms, numbers without a bound, and Earley's sets for what can come next.
 */
final class Oracle {
    static final int NONE = -1;
    private static final int LISTED = 3000;

    record Production(int head, int[] items, int cost) { }

    record Tree(int production, int from, int to, int[] ends, Tree[] children) { }

    record Node(int production, int from, int to, int depth) { }

    record State(int production, int dot, int from) { }

    private List<Production> productions = new ArrayList<>();
    private List<Integer> row = new ArrayList<>();
    private List<Node> shown = new ArrayList<>();
    private final Map<String, BigInteger> counts = new HashMap<>();
    private final Map<String, Integer> costs = new HashMap<>();

    private void stale() {
        counts.clear();
        costs.clear();
    }

    int productions() {
        return productions.size();
    }

    int length() {
        return row.size();
    }

    int nodes() {
        return shown.size();
    }

    void clear() {
        productions = new ArrayList<>();
        row = new ArrayList<>();
        shown = new ArrayList<>();
        stale();
    }

    int production(int head, int a, int b, int c, int cost) {
        List<Integer> items = new ArrayList<>(List.of(a, b, c));
        while (!items.isEmpty() && items.get(items.size() - 1) == NONE) {
            items.remove(items.size() - 1);
        }
        boolean good = head >= 0 && head <= 9 && cost >= 0 && cost <= 1000 && !items.isEmpty();
        for (int item : items) {
            good &= item >= 0 && item <= 19;
        }
        if (!good) {
            throw new IllegalArgumentException();
        }
        if (productions.size() == 24) {
            throw new UnsupportedOperationException();
        }
        int[] array = items.stream().mapToInt(i -> i).toArray();
        if (isStep(array) && hasWay(array[0], head, new HashSet<>())) {
            throw new IllegalStateException();
        }
        productions.add(new Production(head, array, cost));
        stale();
        return productions.size() - 1;
    }

    private static boolean isStep(int[] items) {
        return items.length == 1 && items[0] < 10;
    }

    /** A way of none or more steps. */
    private boolean hasWay(int from, int to, Set<Integer> seen) {
        if (from == to) {
            return true;
        }
        if (!seen.add(from)) {
            return false;
        }
        for (Production p : productions) {
            if (p.head() == from && isStep(p.items()) && hasWay(p.items()[0], to, seen)) {
                return true;
            }
        }
        return false;
    }

    int put(int token) {
        if (token < 0 || token > 9) {
            throw new IllegalArgumentException();
        }
        if (row.size() == 24) {
            throw new UnsupportedOperationException();
        }
        row.add(token);
        stale();
        return row.size();
    }

    void cut(int n) {
        if (n < 0 || n > row.size()) {
            throw new IllegalArgumentException();
        }
        row = new ArrayList<>(row.subList(0, n));
        stale();
    }

    private void check(int symbol, int from, int to) {
        if (symbol < 0 || symbol > 9 || from < 0 || to > row.size() || from >= to) {
            throw new IndexOutOfBoundsException();
        }
    }

    int count(int symbol, int from, int to) {
        check(symbol, from, to);
        return number(symbol, from, to).min(BigInteger.valueOf(1000000000)).intValue();
    }

    private BigInteger number(int symbol, int from, int to) {
        String key = symbol + " " + from + " " + to;
        BigInteger known = counts.get(key);
        if (known == null) {
            known = BigInteger.ZERO;
            for (Production p : productions) {
                if (p.head() == symbol) {
                    known = known.add(itemsNumber(p.items(), 0, from, to));
                }
            }
            counts.put(key, known);
        }
        return known;
    }

    private BigInteger itemsNumber(int[] items, int i, int from, int to) {
        if (i == items.length - 1) {
            return itemNumber(items[i], from, to);
        }
        BigInteger sum = BigInteger.ZERO;
        for (int end = from + 1; end < to; end++) {
            BigInteger first = itemNumber(items[i], from, end);
            if (first.signum() > 0) {
                sum = sum.add(first.multiply(itemsNumber(items, i + 1, end, to)));
            }
        }
        return sum;
    }

    private BigInteger itemNumber(int item, int from, int to) {
        if (from >= to) {
            return BigInteger.ZERO;
        }
        if (item < 10) {
            return number(item, from, to);
        }
        boolean fits = to == from + 1 && row.get(from) == item - 10;
        return fits ? BigInteger.ONE : BigInteger.ZERO;
    }

    int cost(int symbol, int from, int to) {
        check(symbol, from, to);
        return least(symbol, from, to);
    }

    private int least(int symbol, int from, int to) {
        String key = symbol + " " + from + " " + to;
        Integer known = costs.get(key);
        if (known == null) {
            known = NONE;
            for (Production p : productions) {
                if (p.head() == symbol) {
                    int rest = itemsLeast(p.items(), 0, from, to);
                    if (rest != NONE && (known == NONE || rest + p.cost() < known)) {
                        known = rest + p.cost();
                    }
                }
            }
            costs.put(key, known);
        }
        return known;
    }

    private int itemsLeast(int[] items, int i, int from, int to) {
        if (i == items.length - 1) {
            return itemLeast(items[i], from, to);
        }
        int best = NONE;
        for (int end = from + 1; end < to; end++) {
            int first = itemLeast(items[i], from, end);
            int rest = first == NONE ? NONE : itemsLeast(items, i + 1, end, to);
            if (rest != NONE && (best == NONE || first + rest < best)) {
                best = first + rest;
            }
        }
        return best;
    }

    private int itemLeast(int item, int from, int to) {
        if (itemNumber(item, from, to).signum() == 0) {
            return NONE;
        }
        return item < 10 ? least(item, from, to) : 0;
    }

    int tree(int symbol, int from, int to, int k) {
        check(symbol, from, to);
        if (k < -1 || k > 999999) {
            throw new IllegalArgumentException();
        }
        BigInteger number = number(symbol, from, to);
        if (number.compareTo(BigInteger.valueOf(Math.max(k, 0))) <= 0) {
            throw new NoSuchElementException();
        }
        Tree tree;
        if (number.compareTo(BigInteger.valueOf(LISTED)) <= 0) {
            tree = listed(symbol, from, to, k);
        } else {
            tree = k == NONE ? best(symbol, from, to) : numbered(symbol, from, to, BigInteger.valueOf(k));
        }
        shown = new ArrayList<>();
        show(tree, 0);
        return shown.size();
    }

    private void show(Tree tree, int depth) {
        shown.add(new Node(tree.production(), tree.from(), tree.to(), depth));
        for (Tree child : tree.children()) {
            if (child != null) {
                show(child, depth + 1);
            }
        }
    }

    /** By the list of all trees, in order. */
    private Tree listed(int symbol, int from, int to, int k) {
        List<Tree> all = list(symbol, from, to);
        all.sort(this::compare);
        if (k != NONE) {
            return all.get(k);
        }
        Tree best = all.get(0);
        for (Tree tree : all) {
            if (fullCost(tree) < fullCost(best)) {
                best = tree;
            }
        }
        return best;
    }

    private int fullCost(Tree tree) {
        int sum = productions.get(tree.production()).cost();
        for (Tree child : tree.children()) {
            sum += child == null ? 0 : fullCost(child);
        }
        return sum;
    }

    private int compare(Tree one, Tree other) {
        int c = Integer.compare(one.production(), other.production());
        for (int i = 0; c == 0 && i < one.ends().length; i++) {
            c = Integer.compare(one.ends()[i], other.ends()[i]);
        }
        for (int i = 0; c == 0 && i < one.children().length; i++) {
            if (one.children()[i] != null) {
                c = compare(one.children()[i], other.children()[i]);
            }
        }
        return c;
    }

    private List<Tree> list(int symbol, int from, int to) {
        List<Tree> all = new ArrayList<>();
        if (number(symbol, from, to).signum() > 0) {
            for (int p = productions.size() - 1; p >= 0; p--) {
                int[] items = productions.get(p).items();
                if (productions.get(p).head() == symbol) {
                    extend(all, p, from, to, new int[items.length], new Tree[items.length], 0);
                }
            }
        }
        return all;
    }

    private void extend(List<Tree> all, int p, int from, int to, int[] ends, Tree[] children, int i) {
        int[] items = productions.get(p).items();
        int start = i == 0 ? from : ends[i - 1];
        if (i == items.length) {
            if (start == to) {
                all.add(new Tree(p, from, to, ends.clone(), children.clone()));
            }
            return;
        }
        if (itemsNumberFrom(items, i, start, to).signum() == 0) {
            return;
        }
        for (int end = to; end > start; end--) {
            if (itemNumber(items[i], start, end).signum() > 0) {
                ends[i] = end;
                if (items[i] >= 10) {
                    children[i] = null;
                    extend(all, p, from, to, ends, children, i + 1);
                } else if (i == items.length - 1 ? end == to : itemsNumber(items, i + 1, end, to).signum() > 0) {
                    for (Tree child : list(items[i], start, end)) {
                        children[i] = child;
                        extend(all, p, from, to, ends, children, i + 1);
                        ends[i] = end;
                    }
                }
            }
        }
    }

    private BigInteger itemsNumberFrom(int[] items, int i, int from, int to) {
        return from < to ? itemsNumber(items, i, from, to) : BigInteger.ZERO;
    }

    /** By numbers alone, for what is too much to list. */
    private Tree numbered(int symbol, int from, int to, BigInteger k) {
        for (int p = 0; p < productions.size(); p++) {
            if (productions.get(p).head() == symbol) {
                int[] items = productions.get(p).items();
                for (int[] ends : splits(items.length, from, to)) {
                    BigInteger here = BigInteger.ONE;
                    for (int i = 0; i < items.length; i++) {
                        here = here.multiply(itemNumber(items[i], i == 0 ? from : ends[i - 1], ends[i]));
                    }
                    if (k.compareTo(here) < 0) {
                        return numberedWithin(p, from, to, ends, k);
                    }
                    k = k.subtract(here);
                }
            }
        }
        throw new AssertionError("the oracle has lost a tree");
    }

    private Tree numberedWithin(int p, int from, int to, int[] ends, BigInteger k) {
        int[] items = productions.get(p).items();
        Tree[] children = new Tree[items.length];
        for (int i = items.length - 1; i >= 0; i--) {
            int start = i == 0 ? from : ends[i - 1];
            BigInteger[] parted = k.divideAndRemainder(itemNumber(items[i], start, ends[i]));
            children[i] = items[i] < 10 ? numbered(items[i], start, ends[i], parted[1]) : null;
            k = parted[0];
        }
        return new Tree(p, from, to, ends, children);
    }

    private Tree best(int symbol, int from, int to) {
        int due = least(symbol, from, to);
        for (int p = 0; p < productions.size(); p++) {
            if (productions.get(p).head() == symbol) {
                int[] items = productions.get(p).items();
                for (int[] ends : splits(items.length, from, to)) {
                    int sum = productions.get(p).cost();
                    boolean some = true;
                    for (int i = 0; some && i < items.length; i++) {
                        int cheapest = itemLeast(items[i], i == 0 ? from : ends[i - 1], ends[i]);
                        some = cheapest != NONE;
                        sum += cheapest;
                    }
                    if (some && sum == due) {
                        Tree[] children = new Tree[items.length];
                        for (int i = 0; i < items.length; i++) {
                            int start = i == 0 ? from : ends[i - 1];
                            children[i] = items[i] < 10 ? best(items[i], start, ends[i]) : null;
                        }
                        return new Tree(p, from, to, ends, children);
                    }
                }
            }
        }
        throw new AssertionError("the oracle has lost the best tree");
    }

    private static List<int[]> splits(int parts, int from, int to) {
        List<int[]> all = new ArrayList<>();
        if (parts == 1) {
            all.add(new int[] {to});
        }
        for (int first = from + 1; parts > 1 && first < to; first++) {
            if (parts == 2) {
                all.add(new int[] {first, to});
            }
            for (int second = first + 1; parts == 3 && second < to; second++) {
                all.add(new int[] {first, second, to});
            }
        }
        return all;
    }

    int node(int i, int what) {
        if (i < 0 || i >= shown.size()) {
            throw new IndexOutOfBoundsException();
        }
        if (what < 0 || what > 3) {
            throw new IllegalArgumentException();
        }
        Node node = shown.get(i);
        return new int[] {node.production(), node.from(), node.to(), node.depth()}[what];
    }

    int next(int m) {
        if (m < 0 || m > row.size()) {
            throw new IndexOutOfBoundsException();
        }
        Set<Integer> fertile = fertile();
        List<Set<State>> sets = new ArrayList<>();
        for (int place = 0; place <= m; place++) {
            Set<State> set = new HashSet<>();
            if (place == 0) {
                predict(set, 0, 0, fertile);
            } else {
                for (State s : sets.get(place - 1)) {
                    if (behindDot(s) == row.get(place - 1) + 10) {
                        set.add(new State(s.production(), s.dot() + 1, s.from()));
                    }
                }
            }
            close(set, sets, place, fertile);
            sets.add(set);
        }
        int bits = 0;
        for (State s : sets.get(m)) {
            int item = behindDot(s);
            if (item >= 10) {
                bits |= 1 << (item - 10);
            }
            if (item == NONE && s.from() == 0 && productions.get(s.production()).head() == 0) {
                bits |= 1024;
            }
        }
        return bits;
    }

    private int behindDot(State s) {
        int[] items = productions.get(s.production()).items();
        return s.dot() < items.length ? items[s.dot()] : NONE;
    }

    private void predict(Set<State> set, int symbol, int place, Set<Integer> fertile) {
        for (int p = 0; p < productions.size(); p++) {
            if (productions.get(p).head() == symbol && isUsable(productions.get(p), fertile)) {
                set.add(new State(p, 0, place));
            }
        }
    }

    private void close(Set<State> set, List<Set<State>> sets, int place, Set<Integer> fertile) {
        int before = -1;
        while (before != set.size()) {
            before = set.size();
            for (State s : new ArrayList<>(set)) {
                int item = behindDot(s);
                if (item >= 0 && item < 10) {
                    predict(set, item, place, fertile);
                }
                if (item == NONE) {
                    for (State waiting : new ArrayList<>(sets.get(s.from()))) {
                        if (behindDot(waiting) == productions.get(s.production()).head()) {
                            set.add(new State(waiting.production(), waiting.dot() + 1, waiting.from()));
                        }
                    }
                }
            }
        }
    }

    private Set<Integer> fertile() {
        Set<Integer> fertile = new HashSet<>();
        int before = -1;
        while (before != fertile.size()) {
            before = fertile.size();
            for (Production p : productions) {
                if (isUsable(p, fertile)) {
                    fertile.add(p.head());
                }
            }
        }
        return fertile;
    }

    private static boolean isUsable(Production p, Set<Integer> fertile) {
        for (int item : p.items()) {
            if (item < 10 && !fertile.contains(item)) {
                return false;
            }
        }
        return true;
    }
}
