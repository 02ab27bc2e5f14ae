import java.util.NoSuchElementException;

/**
 * Trees by which rows of tokens come of symbols: how many there are for each part of a row, the
 * cheapest one, each one by its number, and which tokens can come next behind a beginning.
 */
public final class ForestHouse {
    /** There is none. */
    public static final int NONE = -1;

    private static final int SYMBOLS = 10;
    private static final int TOKENS = 10;
    private static final int ITEMS = SYMBOLS + TOKENS;
    private static final int MAX_PRODUCTIONS = 24;
    private static final int MAX_ITEMS = 3;
    private static final int MAX_ROW = 24;
    private static final int PLACES = MAX_ROW + 1;
    private static final int MAX_COST = 1000;
    private static final int MAX_NUMBER = 999999;
    private static final int MANY = 1000000000;
    private static final int ROW_SYMBOL = 0;
    private static final int COMES = 1024;
    private static final int FACTS = 4;
    // Parts that lie within one another or apart are at most 47 in a row of 24; and since no symbol
    // has a way of steps to itself, at most ten productions of a tree have the same part.
    private static final int MAX_NODES = (2 * MAX_ROW - 1) * SYMBOLS;

    private final Grammar grammar;
    private final Row row;
    private final Chart chart;
    private final Tree shown;
    private final Finder finder;
    private final Outlook outlook;

    public ForestHouse() {
        grammar = new Grammar();
        row = new Row();
        chart = new Chart(grammar, row);
        shown = new Tree();
        finder = new Finder(grammar, chart);
        outlook = new Outlook(grammar, chart);
    }

    public void clear() {
        grammar.forget();
        row.shorten(0);
        chart.forgetBehind(0);
        shown.forget();
    }

    public int production(int head, int a, int b, int c, int cost)
            throws IllegalArgumentException, UnsupportedOperationException, IllegalStateException {
        if (!isSymbol(head) || !areItems(a, b, c) || cost < 0 || cost > MAX_COST) {
            throw new IllegalArgumentException("not a production");
        }
        if (grammar.isFull()) {
            throw new UnsupportedOperationException("there are 24 productions");
        }
        if (isStep(a, b) && grammar.wouldCircle(head, a)) {
            throw new IllegalStateException("a symbol would have a way of steps to itself");
        }
        chart.forgetBehind(0);
        return grammar.learn(head, a, b, c, cost);
    }

    public int put(int token) throws IllegalArgumentException, UnsupportedOperationException {
        if (token < 0 || token >= TOKENS) {
            throw new IllegalArgumentException("no such token");
        }
        if (row.isFull()) {
            throw new UnsupportedOperationException("the row has 24 tokens");
        }
        return row.lengthen(token);
    }

    public void cut(int n) throws IllegalArgumentException {
        if (n < 0 || n > row.length()) {
            throw new IllegalArgumentException("the row has no such beginning");
        }
        row.shorten(n);
        chart.forgetBehind(n);
    }

    public int count(int symbol, int from, int to) throws IndexOutOfBoundsException {
        checkPart(symbol, from, to);
        chart.fill(to);
        return chart.trees(symbol, from, to);
    }

    public int cost(int symbol, int from, int to) throws IndexOutOfBoundsException {
        checkPart(symbol, from, to);
        chart.fill(to);
        return chart.leastCost(symbol, from, to);
    }

    public int tree(int symbol, int from, int to, int k)
            throws IndexOutOfBoundsException, IllegalArgumentException, NoSuchElementException {
        checkPart(symbol, from, to);
        if (k != NONE && (k < 0 || k > MAX_NUMBER)) {
            throw new IllegalArgumentException("no number of a tree");
        }
        chart.fill(to);
        int needed = k == NONE ? 1 : k + 1;
        if (chart.trees(symbol, from, to) < needed) {
            throw new NoSuchElementException("there is no such tree");
        }
        finder.find(symbol, from, to, k, shown);
        return shown.size();
    }

    public int node(int i, int what) throws IndexOutOfBoundsException, IllegalArgumentException {
        if (i < 0 || i >= shown.size()) {
            throw new IndexOutOfBoundsException("the tree has no such node");
        }
        if (what < 0 || what >= FACTS) {
            throw new IllegalArgumentException("nothing is told of a node under this number");
        }
        return shown.fact(i, what);
    }

    public int next(int m) throws IndexOutOfBoundsException {
        if (m < 0 || m > row.length()) {
            throw new IndexOutOfBoundsException("the row has no such beginning");
        }
        chart.fill(m);
        int comes = chart.trees(ROW_SYMBOL, 0, m) > 0 ? COMES : 0;
        return outlook.tokensBehind(m) | comes;
    }

    private void checkPart(int symbol, int from, int to) {
        if (!isSymbol(symbol) || from < 0 || from >= to || to > row.length()) {
            throw new IndexOutOfBoundsException("no such symbol or part");
        }
    }

    private static boolean areItems(int a, int b, int c) {
        boolean known = isItem(a) && (b == NONE || isItem(b)) && (c == NONE || isItem(c));
        return known && (b != NONE || c == NONE);
    }

    private static boolean isItem(int item) {
        return item >= 0 && item < ITEMS;
    }

    private static boolean isSymbol(int item) {
        return item >= 0 && item < SYMBOLS;
    }

    private static boolean isStep(int a, int b) {
        return isSymbol(a) && b == NONE;
    }

    private static boolean has(int bits, int number) {
        return (bits & (1 << number)) != 0;
    }

    /** Sums and products of numbers up to MANY, as a long, brought back to at most MANY. */
    private static int atMostMany(long number) {
        return number < MANY ? (int) number : MANY;
    }

    /** The productions, and what follows from them without any row. */
    private static final class Grammar {
        private final int[] heads = new int[MAX_PRODUCTIONS];
        private final int[] items = new int[MAX_PRODUCTIONS * MAX_ITEMS];
        private final int[] costs = new int[MAX_PRODUCTIONS];
        private final int[] stepOrder = new int[MAX_PRODUCTIONS];
        // For each symbol, as bits, the symbols to which it has a way of one or more steps.
        private final int[] reached = new int[SYMBOLS];
        // As bits, the symbols of which some row comes.
        private int fertile = 0;
        private int size = 0;

        void forget() {
            for (int symbol = 0; symbol < SYMBOLS; symbol++) {
                reached[symbol] = 0;
            }
            fertile = 0;
            size = 0;
        }

        int size() {
            return size;
        }

        boolean isFull() {
            return size >= MAX_PRODUCTIONS;
        }

        boolean wouldCircle(int head, int target) {
            return head == target || has(reachedFrom(target), head);
        }

        /** The new production's number. */
        int learn(int head, int a, int b, int c, int cost) {
            if (isFull()) {
                return NONE;
            }
            int p = size;
            heads[p] = head;
            items[p * MAX_ITEMS] = a;
            items[p * MAX_ITEMS + 1] = b;
            items[p * MAX_ITEMS + 2] = c;
            costs[p] = cost;
            size = p + 1;
            if (isStep(a, b)) {
                learnStep(head, a);
            }
            orderBySteps();
            learnFertile();
            return p;
        }

        private void learnStep(int head, int target) {
            int more = (1 << target) | reachedFrom(target);
            for (int symbol = 0; symbol < SYMBOLS; symbol++) {
                if (symbol == head || has(reached[symbol], head)) {
                    reached[symbol] |= more;
                }
            }
        }

        /**
         * A step's target reaches fewer symbols than its head does, so this order has all
         * productions of the target before any of the head.
         */
        private void orderBySteps() {
            int placed = 0;
            for (int level = 0; level < SYMBOLS; level++) {
                for (int p = 0; p < size; p++) {
                    boolean here = Integer.bitCount(reachedFrom(heads[p])) == level;
                    if (here && placed < MAX_PRODUCTIONS) {
                        stepOrder[placed] = p;
                        placed++;
                    }
                }
            }
        }

        /** Each round but the last finds a symbol at least, so as many rounds as symbols do. */
        private void learnFertile() {
            for (int round = 0; round < SYMBOLS; round++) {
                for (int p = 0; p < size; p++) {
                    if (isUsable(p)) {
                        fertile |= 1 << heads[p];
                    }
                }
            }
        }

        /** Whether some tree, over some row, begins with this production. */
        boolean isUsable(int p) {
            return isFertile(item(p, 0)) && isFertile(item(p, 1)) && isFertile(item(p, 2));
        }

        private boolean isFertile(int item) {
            return !isSymbol(item) || has(fertile, item);
        }

        private int reachedFrom(int symbol) {
            return isSymbol(symbol) ? reached[symbol] : 0;
        }

        int inStepOrder(int i) {
            return i >= 0 && i < size && i < MAX_PRODUCTIONS ? stepOrder[i] : NONE;
        }

        int head(int p) {
            return p >= 0 && p < size && p < MAX_PRODUCTIONS ? heads[p] : NONE;
        }

        int ownCost(int p) {
            return p >= 0 && p < size && p < MAX_PRODUCTIONS ? costs[p] : 0;
        }

        /** NONE behind the last item. */
        int item(int p, int i) {
            boolean known = p >= 0 && p < size && p < MAX_PRODUCTIONS && i >= 0 && i < MAX_ITEMS;
            return known ? items[p * MAX_ITEMS + i] : NONE;
        }

        // Where the first and the second item's parts can end. Those behind the last item count as
        // items with an empty part at the end, so that each production has these two ends.

        int leastFirstEnd(int p, int from, int to) {
            return item(p, 1) == NONE ? to : from + 1;
        }

        int lastFirstEnd(int p, int to) {
            return item(p, 1) == NONE ? to : item(p, 2) == NONE ? to - 1 : to - 2;
        }

        int leastSecondEnd(int p, int first, int to) {
            return item(p, 2) == NONE ? to : first + 1;
        }

        int lastSecondEnd(int p, int to) {
            return item(p, 2) == NONE ? to : to - 1;
        }
    }

    /** The row of tokens. */
    private static final class Row {
        private final int[] tokens = new int[MAX_ROW];
        private int length = 0;

        int length() {
            return length;
        }

        boolean isFull() {
            return length >= MAX_ROW;
        }

        int lengthen(int token) {
            if (!isFull()) {
                tokens[length] = token;
                length++;
            }
            return length;
        }

        void shorten(int n) {
            if (n >= 0 && n < length) {
                length = n;
            }
        }

        int token(int place) {
            return place >= 0 && place < length && place < MAX_ROW ? tokens[place] : NONE;
        }
    }

    /** How many trees of each symbol there are over each part of the row, and their least cost. */
    private static final class Chart {
        private final Grammar grammar;
        private final Row row;
        private final int[] counts = new int[SYMBOLS * MAX_ROW * MAX_ROW];
        private final int[] costs = new int[SYMBOLS * MAX_ROW * MAX_ROW];
        // The same for a production's items behind its first one, from each place on to the end of
        // the column that is being filled: all parts that end there share them.
        private final int[] restCounts = new int[MAX_PRODUCTIONS * PLACES];
        private final int[] restCosts = new int[MAX_PRODUCTIONS * PLACES];
        // Only parts that end here or before are counted: a token more leaves them as they are.
        private int filled = 0;

        Chart(Grammar grammar, Row row) {
            this.grammar = grammar;
            this.row = row;
        }

        void forgetBehind(int n) {
            filled = Math.min(filled, n);
        }

        void fill(int to) {
            for (int end = filled + 1; end <= to; end++) {
                fillColumn(end);
            }
            filled = Math.max(filled, to);
        }

        private void fillColumn(int end) {
            fillRests(end, end);
            for (int from = end - 1; from >= 0; from--) {
                fillPart(from, end);
                fillRests(from, end);
            }
        }

        private void fillPart(int from, int to) {
            for (int symbol = 0; symbol < SYMBOLS; symbol++) {
                write(symbol, from, to, 0, NONE);
            }
            for (int i = 0; i < grammar.size(); i++) {
                addProduction(grammar.inStepOrder(i), from, to);
            }
        }

        private void addProduction(int p, int from, int to) {
            int head = grammar.head(p);
            int item = grammar.item(p, 0);
            int number = trees(head, from, to);
            int cheapest = leastCost(head, from, to);
            int last = grammar.lastFirstEnd(p, to);
            for (int first = grammar.leastFirstEnd(p, from, to); first <= last; first++) {
                int at = restCell(p, first);
                int rests = at >= 0 && at < restCounts.length ? restCounts[at] : 0;
                int firsts = rests > 0 ? trees(item, from, first) : 0;
                if (firsts > 0 && at >= 0 && at < restCosts.length) {
                    int cost = grammar.ownCost(p) + leastCost(item, from, first) + restCosts[at];
                    number = atMostMany(number + (long) firsts * rests);
                    cheapest = cheaper(cheapest, cost);
                }
            }
            write(head, from, to, number, cheapest);
        }

        private void fillRests(int from, int to) {
            for (int p = 0; p < grammar.size(); p++) {
                fillRest(p, from, to);
            }
        }

        private void fillRest(int p, int from, int to) {
            int item = grammar.item(p, 1);
            int lastItem = grammar.item(p, 2);
            int number = 0;
            int cheapest = NONE;
            int last = grammar.lastSecondEnd(p, to);
            for (int second = grammar.leastSecondEnd(p, from, to); second <= last; second++) {
                int seconds = trees(item, from, second);
                int thirds = seconds > 0 ? trees(lastItem, second, to) : 0;
                if (thirds > 0) {
                    int cost = leastCost(item, from, second) + leastCost(lastItem, second, to);
                    number = atMostMany(number + (long) seconds * thirds);
                    cheapest = cheaper(cheapest, cost);
                }
            }
            int at = restCell(p, from);
            if (at >= 0 && at < restCounts.length && at < restCosts.length) {
                restCounts[at] = number;
                restCosts[at] = cheapest;
            }
        }

        private static int cheaper(int known, int cost) {
            return known == NONE ? cost : Math.min(known, cost);
        }

        /** An item that is a token counts as one tree over it, NONE as one over an empty part. */
        int trees(int item, int from, int to) {
            if (item == NONE) {
                return from == to ? 1 : 0;
            }
            if (item >= SYMBOLS) {
                return to == from + 1 && row.token(from) == item - SYMBOLS ? 1 : 0;
            }
            int at = cell(item, from, to);
            return at >= 0 && at < counts.length ? counts[at] : 0;
        }

        /** Of a symbol's trees NONE if there are none; what is no symbol costs nothing. */
        int leastCost(int item, int from, int to) {
            if (item == NONE || item >= SYMBOLS) {
                return 0;
            }
            int at = cell(item, from, to);
            return at >= 0 && at < costs.length ? costs[at] : NONE;
        }

        private void write(int symbol, int from, int to, int trees, int leastCost) {
            int at = cell(symbol, from, to);
            if (at >= 0 && at < counts.length && at < costs.length) {
                counts[at] = trees;
                costs[at] = leastCost;
            }
        }

        private static int cell(int symbol, int from, int to) {
            if (symbol < 0 || symbol >= SYMBOLS || from < 0 || from >= to || to > MAX_ROW) {
                return NONE;
            }
            return (symbol * MAX_ROW + from) * MAX_ROW + to - 1;
        }

        private static int restCell(int p, int place) {
            boolean known = p >= 0 && p < MAX_PRODUCTIONS && place >= 0 && place < PLACES;
            return known ? p * PLACES + place : NONE;
        }
    }

    /** The nodes of a tree. */
    private static final class Tree {
        private final int[] facts = new int[MAX_NODES * FACTS];
        private int size = 0;

        void forget() {
            size = 0;
        }

        int size() {
            return size;
        }

        void grow(int production, int from, int to, int depth) {
            if (size < MAX_NODES) {
                int at = size * FACTS;
                facts[at] = production;
                facts[at + 1] = from;
                facts[at + 2] = to;
                facts[at + 3] = depth;
                size++;
            }
        }

        int fact(int i, int what) {
            boolean told = i >= 0 && i < size && i < MAX_NODES && what >= 0 && what < FACTS;
            return told ? facts[i * FACTS + what] : NONE;
        }
    }

    /**
     * Finds a tree by its number, or the best one. The trees that are still to be found wait in a
     * pile and not in calls, since a tree can be 240 nodes deep; their parts lie apart, so there are
     * never more of them than the row has tokens.
     */
    private static final class Finder {
        private final Grammar grammar;
        private final Chart chart;
        private final int[] symbols = new int[MAX_ROW];
        private final int[] froms = new int[MAX_ROW];
        private final int[] tos = new int[MAX_ROW];
        private final int[] numbers = new int[MAX_ROW];
        private final int[] depths = new int[MAX_ROW];
        private int waiting = 0;
        // The tree that is being looked for, and where its first two items' parts end.
        private int begin = 0;
        private int end = 0;
        private int number = NONE;
        private int least = NONE;
        private int firstEnd = 0;
        private int secondEnd = 0;

        Finder(Grammar grammar, Chart chart) {
            this.grammar = grammar;
            this.chart = chart;
        }

        /** There must be such a tree, and the chart be filled up to its end. */
        void find(int symbol, int from, int to, int k, Tree found) {
            found.forget();
            waiting = 0;
            pileUp(symbol, from, to, k, 0);
            for (int done = 0; done < MAX_NODES && waiting > 0; done++) {
                int top = Math.min(waiting, MAX_ROW) - 1;
                waiting = top;
                begin = froms[top];
                end = tos[top];
                number = numbers[top];
                least = chart.leastCost(symbols[top], begin, end);
                int depth = depths[top];
                int p = findProduction(symbols[top]);
                if (p != NONE) {
                    found.grow(p, begin, end, depth);
                    pileUpItems(p, depth + 1);
                }
            }
        }

        private void pileUp(int item, int from, int to, int k, int depth) {
            if (isSymbol(item) && waiting >= 0 && waiting < MAX_ROW) {
                symbols[waiting] = item;
                froms[waiting] = from;
                tos[waiting] = to;
                numbers[waiting] = k;
                depths[waiting] = depth;
                waiting++;
            }
        }

        private int findProduction(int symbol) {
            for (int p = 0; p < grammar.size(); p++) {
                if (grammar.head(p) == symbol && findSplit(p)) {
                    return p;
                }
            }
            return NONE;
        }

        private boolean findSplit(int p) {
            int lastFirst = grammar.lastFirstEnd(p, end);
            int lastSecond = grammar.lastSecondEnd(p, end);
            for (int first = grammar.leastFirstEnd(p, begin, end); first <= lastFirst; first++) {
                int leastSecond = grammar.leastSecondEnd(p, first, end);
                for (int second = leastSecond; second <= lastSecond; second++) {
                    if (isWithin(p, first, second)) {
                        firstEnd = first;
                        secondEnd = second;
                        return true;
                    }
                }
            }
            return false;
        }

        /** Whether the tree is one of those with these parts; if not, its number leaves them out. */
        private boolean isWithin(int p, int first, int second) {
            int trees = splitTrees(p, first, second);
            if (number == NONE) {
                return trees > 0 && splitCost(p, first, second) == least;
            }
            if (number < trees) {
                return true;
            }
            number -= trees;
            return false;
        }

        /** How many trees begin with this production and these ends of its items' parts. */
        private int splitTrees(int p, int first, int second) {
            long trees = chart.trees(grammar.item(p, 0), begin, first);
            if (trees > 0) {
                trees = atMostMany(trees * chart.trees(grammar.item(p, 1), first, second));
            }
            if (trees > 0) {
                trees = trees * chart.trees(grammar.item(p, 2), second, end);
            }
            return atMostMany(trees);
        }

        /** The least cost of these trees, if there are any. */
        private int splitCost(int p, int first, int second) {
            return grammar.ownCost(p)
                    + chart.leastCost(grammar.item(p, 0), begin, first)
                    + chart.leastCost(grammar.item(p, 1), first, second)
                    + chart.leastCost(grammar.item(p, 2), second, end);
        }

        /**
         * The last item's tree changes first as the number grows. The first item is piled up last,
         * for its nodes come first.
         */
        private void pileUpItems(int p, int depth) {
            int seconds = chart.trees(grammar.item(p, 1), firstEnd, secondEnd);
            int thirds = chart.trees(grammar.item(p, 2), secondEnd, end);
            int first = NONE;
            int second = NONE;
            int third = NONE;
            if (number != NONE && seconds > 0 && thirds > 0) {
                third = number % thirds;
                second = number / thirds % seconds;
                first = number / thirds / seconds;
            }
            pileUp(grammar.item(p, 2), secondEnd, end, third, depth);
            pileUp(grammar.item(p, 1), firstEnd, secondEnd, second, depth);
            pileUp(grammar.item(p, 0), begin, firstEnd, first, depth);
        }
    }

    /**
     * What can come next behind a beginning of the row: for each place of the beginning and each
     * symbol the tokens that, behind the tokens from this place on, begin a row of the symbol.
     */
    private static final class Outlook {
        private final Grammar grammar;
        private final Chart chart;
        private final int[] nexts = new int[PLACES * SYMBOLS];
        private int end = 0;

        Outlook(Grammar grammar, Chart chart) {
            this.grammar = grammar;
            this.chart = chart;
        }

        /** As bits; the chart must be filled up to m. */
        int tokensBehind(int m) {
            end = m;
            for (int from = m; from >= 0; from--) {
                lookFrom(from);
            }
            return itemNexts(ROW_SYMBOL, 0);
        }

        private void lookFrom(int from) {
            for (int symbol = 0; symbol < SYMBOLS; symbol++) {
                write(symbol, from, 0);
            }
            for (int p = 0; p < grammar.size(); p++) {
                if (grammar.isUsable(p)) {
                    addTo(grammar.head(p), from, nextsBehindFirst(p, from));
                }
            }
            // A token wanders from a first item to its head in each round, over ten symbols at most.
            boolean more = true;
            for (int round = 0; round < SYMBOLS && more; round++) {
                more = addFirstItems(from);
            }
        }

        /** Whether a symbol has got a token more. */
        private boolean addFirstItems(int from) {
            boolean more = false;
            for (int p = 0; p < grammar.size(); p++) {
                int tokens = itemNexts(grammar.item(p, 0), from);
                if ((tokens & ~itemNexts(grammar.head(p), from)) != 0 && grammar.isUsable(p)) {
                    addTo(grammar.head(p), from, tokens);
                    more = true;
                }
            }
            return more;
        }

        /** Those that come next if the production's first item, or two, end before. */
        private int nextsBehindFirst(int p, int from) {
            int tokens = 0;
            for (int first = from + 1; first <= end; first++) {
                if (chart.trees(grammar.item(p, 0), from, first) > 0) {
                    tokens |= itemNexts(grammar.item(p, 1), first);
                    tokens |= nextsBehindSecond(p, first);
                }
            }
            return tokens;
        }

        private int nextsBehindSecond(int p, int first) {
            int tokens = 0;
            for (int second = first + 1; second <= end; second++) {
                if (chart.trees(grammar.item(p, 1), first, second) > 0) {
                    tokens |= itemNexts(grammar.item(p, 2), second);
                }
            }
            return tokens;
        }

        private int itemNexts(int item, int from) {
            if (item >= SYMBOLS) {
                return from == end ? 1 << (item - SYMBOLS) : 0;
            }
            int at = cell(item, from);
            return at >= 0 && at < nexts.length ? nexts[at] : 0;
        }

        private void addTo(int symbol, int from, int tokens) {
            write(symbol, from, itemNexts(symbol, from) | tokens);
        }

        private void write(int symbol, int from, int tokens) {
            int at = cell(symbol, from);
            if (at >= 0 && at < nexts.length) {
                nexts[at] = tokens;
            }
        }

        private static int cell(int symbol, int from) {
            boolean known = symbol >= 0 && symbol < SYMBOLS && from >= 0 && from < PLACES;
            return known ? from * SYMBOLS + symbol : NONE;
        }
    }
}
