import java.util.NoSuchElementException;

/** Promise 8, sentence by sentence. */
final class Promise08TreeEdgesTest {
    private static final int NONE = ForestHouse.NONE;
    private static final int LAST = 999999;

    public static void main(String[] args) {
        Section section = new Section("Promise 8", "## Promise 8: tree", "## Promise 9");
        section.sentence("Tree k (0 .. 999999) of those becomes the tree;",
                Promise08TreeEdgesTest::treeK0To999999OfThoseBecomesTheTree);
        section.sentence("if k is NONE the best one:", Promise08TreeEdgesTest::ifKIsNoneTheBestOne);
        section.sentence("how many nodes it has.", Promise08TreeEdgesTest::howManyNodesItHas);
        section.sentence("IndexOutOfBoundsException as for count();",
                Promise08TreeEdgesTest::indexOutOfBoundsExceptionAsForCount);
        section.sentence("IllegalArgumentException for another k;",
                Promise08TreeEdgesTest::illegalArgumentExceptionForAnotherK);
        section.sentence("NoSuchElementException if there is no such tree.",
                Promise08TreeEdgesTest::noSuchElementExceptionIfThereIsNoSuchTree);
        section.end();
    }

    private static String tree(ForestHouse x, int symbol, int from, int to, int k) {
        return Make.nodes(x, x.tree(symbol, from, to, k));
    }

    /** Six tokens of ten kinds each: a million trees of symbol 2, of 3 one less, of 4 one more. */
    private static ForestHouse million() {
        ForestHouse x = new ForestHouse();
        Make.rules(x, 9, 0, 0, 10);
        Make.rule(x, 0, 1, 0);
        Make.rule(x, 0, 1, 10);
        Make.rule(x, 0, 2, 1, 2);
        Make.rule(x, 0, 2, 1);
        Make.rule(x, 0, 3, 10, 3);
        Make.rule(x, 0, 3, 0, 2);
        Make.rule(x, 0, 3, 0);
        Make.rule(x, 0, 4, 2);
        Make.rule(x, 0, 4, 5);
        Make.rule(x, 0, 5, 10, 5);
        Make.rule(x, 0, 5, 10);
        Make.putTimes(x, 24, 0);
        return x;
    }

    private static void treeK0To999999OfThoseBecomesTheTree(Check check) {
        ForestHouse x = Make.row(0, 0, 0);
        Make.rule(x, 0, 0, 0, 0);
        Make.rule(x, 0, 0, 10);
        check.same("tree 0", "0:0-3/0 1:0-1/1 0:1-3/1 1:1-2/2 1:2-3/2", tree(x, 0, 0, 3, 0));
        check.same("tree 1", "0:0-3/0 0:0-2/1 1:0-1/2 1:1-2/2 1:2-3/1", tree(x, 0, 0, 3, 1));
        check.same("a smaller one takes its place", "1:2-3/0", tree(x, 0, 2, 3, 0));
        check.dueThrow("and nothing is left of it", IndexOutOfBoundsException.class, () -> x.node(1, 0));
        check.same("one of another part", "0:1-3/0 1:1-2/1 1:2-3/1", tree(x, 0, 1, 3, 0));
        lastNumbers(check);
        ofManyMore(check);
        byKind(check);
        manyTimesManyTimesSome(check);
        manyTimesManyTimesMany(check);
    }

    private static void lastNumbers(Check check) {
        ForestHouse x = million();
        check.due("a million", 1000000, () -> x.count(2, 0, 6));
        String chain = "";
        for (int i = 0; i < 6; i++) {
            chain += (i == 0 ? "" : " ") + (i < 5 ? 11 : 12) + ":" + i + "-6/" + i + " 10:" + i + "-" + (i + 1) + "/"
                    + (i + 1);
        }
        check.same("the last of a million", chain, tree(x, 2, 0, 6, LAST));
        check.same("the last but one", chain.replace("10:5-6/6", "9:5-6/6 8:5-6/7"), tree(x, 2, 0, 6, LAST - 1));
        check.due("one less than a million", 999999, () -> x.count(3, 0, 6));
        check.due("the last of them", 12, () -> x.tree(3, 0, 6, LAST - 1));
        check.dueThrow("none behind it", NoSuchElementException.class, () -> x.tree(3, 0, 6, LAST));
        check.due("one more than a million", 1000001, () -> x.count(4, 0, 6));
        check.due("the last but one", 13, () -> x.tree(4, 0, 6, LAST));
        check.due("it begins so", 16, () -> x.node(0, 0));
        check.due("and ends so", 10, () -> x.node(12, 0));
    }

    /** Those with numbers are the first ones also if there are more than can be counted. */
    private static void ofManyMore(Check check) {
        ForestHouse x = million();
        check.due("many", Make.MANY, () -> x.count(2, 0, 24));
        check.due("the first", 24 + 24 + 24, () -> x.tree(2, 0, 24, 0));
        check.due("tree " + LAST, 24 + 24 + 18, () -> x.tree(2, 0, 24, LAST));
        for (int i = 0; i < 18; i++) {
            int node = 3 * i;
            check.due("chain node " + node, 11, () -> x.node(node, 0));
            check.due("its first item", 9, () -> x.node(node + 1, 0));
            check.due("of the first kind", 0, () -> x.node(node + 2, 0));
        }
        for (int i = 0; i < 6; i++) {
            int node = 54 + 2 * i;
            check.due("of the last kind", 10, () -> x.node(node + 1, 0));
        }
    }

    /** Many trees of the first, the second or the third item: the numbers go round in the last one first. */
    private static void byKind(Check check) {
        for (int many = 0; many < 3; many++) {
            ForestHouse x = new ForestHouse();
            Make.rule(x, 0, 0, many == 0 ? 1 : 2, many == 1 ? 1 : 2, many == 2 ? 1 : 2);
            Make.rule(x, 0, 1, 3, 1);
            Make.rule(x, 0, 1, 3);
            Make.rules(x, 10, 0, 3, 10);
            Make.rules(x, 2, 0, 2, 11);
            for (int item = 0; item < 3; item++) {
                Make.putTimes(x, item == many ? 10 : 1, item == many ? 0 : 1);
            }
            check.due("many", Make.MANY, () -> x.count(0, 0, 12));
            x.tree(0, 0, 12, 7);
            StringBuilder twos = new StringBuilder();
            StringBuilder threes = new StringBuilder();
            for (int i = 1; i < 23; i++) {
                int p = x.node(i, 0);
                if (p >= 13) {
                    twos.append(p - 13);
                } else if (p >= 3) {
                    threes.append(p - 3);
                }
            }
            String[] wantTwos = {"11", "01", "00"};
            String[] wantThrees = {"0000000001", "0000000003", "0000000007"};
            check.same("7, many at " + many + ": the others", wantTwos[many], twos.toString());
            check.same("7, many at " + many + ": the digits", wantThrees[many], threes.toString());
        }
    }

    /** Between brackets there are many trees, and one way only to part the row: their product leaves a long. */
    private static void manyTimesManyTimesSome(Check check) {
        int[][] rules = {{1, 1, 3}, {1, 3, 1}, {3, 1, 1}};
        for (int[] items : rules) {
            for (int kinds = 10; kinds <= 13; kinds++) {
                ForestHouse x = new ForestHouse();
                Make.rule(x, 0, 0, items);
                Make.rule(x, 0, 1, 10, 2, 11);
                Make.rule(x, 0, 2, 2, 2);
                Make.rules(x, 7, 0, 2, 12);
                Make.rules(x, kinds, 0, 3, 13);
                for (int item : items) {
                    Make.puts(x, item == 1 ? new int[] {0, 2, 2, 2, 2, 2, 2, 2, 2, 1} : new int[] {3});
                }
                int last = items[2] == 3 ? 10 + LAST % kinds : 3;
                check.due("the first of many times many times " + kinds, 34, () -> x.tree(0, 0, 21, 0));
                check.due("its last node", items[2] == 3 ? 10 : 3, () -> x.node(33, 0));
                check.due("tree " + LAST, 34, () -> x.tree(0, 0, 21, LAST));
                check.due("its last node", last, () -> x.node(33, 0));
                check.due("the best one", 34, () -> x.tree(0, 0, 21, NONE));
            }
        }
    }

    private static void manyTimesManyTimesMany(Check check) {
        ForestHouse x = new ForestHouse();
        Make.rule(x, 0, 0, 1, 1, 1);
        Make.rule(x, 0, 1, 10, 2, 11);
        Make.rule(x, 0, 2, 2, 2);
        Make.rules(x, 17, 0, 2, 12);
        for (int i = 0; i < 3; i++) {
            Make.puts(x, 0, 2, 2, 2, 2, 2, 2, 1);
        }
        for (int i = 0; i < 3; i++) {
            int from = 8 * i;
            check.due("many from " + from, Make.MANY, () -> x.count(1, from, from + 8));
        }
        for (int k : new int[] {NONE, 0, 1, 17, LAST}) {
            check.due("tree " + k, 37, () -> x.tree(0, 0, 24, k));
            check.due("the first item's last node", 3, () -> x.node(12, 0));
            check.due("the third item's last node", 3 + Math.max(k, 0) % 17, () -> x.node(36, 0));
        }
    }

    private static void ifKIsNoneTheBestOne(Check check) {
        ForestHouse x = Make.row(0);
        Make.rule(x, 1000, 0, 10);
        check.same("the only one", "0:0-1/0", tree(x, 0, 0, 1, NONE));
        Make.rule(x, 1000, 0, 10);
        check.same("the first of two for the same", "0:0-1/0", tree(x, 0, 0, 1, NONE));
        Make.rules(x, 21, 1000, 0, 10);
        Make.rule(x, 999, 0, 10);
        check.same("the last and cheapest of 24", "23:0-1/0", tree(x, 0, 0, 1, NONE));
        check.same("tree 0 is another one", "0:0-1/0", tree(x, 0, 0, 1, 0));
        ForestHouse many = million();
        check.due("of many for the same", 72, () -> many.tree(2, 0, 24, NONE));
        check.due("the first", 0, () -> many.node(71, 0));
        Make.rule(many, 0, 6, 2);
        Make.rule(many, 1, 6, 2);
        check.due("of many", 73, () -> many.tree(6, 0, 24, NONE));
        check.due("the cheapest", 20, () -> many.node(0, 0));
        behindAllNumbers(check);
        notWhatHasNoTree(check);
    }

    /** The best one may have a number beyond those that can be asked for. */
    private static void behindAllNumbers(Check check) {
        ForestHouse x = million();
        Make.rule(x, 1, 7, 2);
        Make.rule(x, 0, 7, 5);
        check.due("many, and one", Make.MANY, () -> x.count(7, 0, 24));
        check.due("the last and best one", 25, () -> x.tree(7, 0, 24, NONE));
        check.due("it begins so", 21, () -> x.node(0, 0));
        check.due("it ends so", 19, () -> x.node(24, 0));
    }

    /** Were the cost of none a number, the first productions would seem to cost 4 as well. */
    private static void notWhatHasNoTree(Check check) {
        ForestHouse x = Make.row(0, 0, 0);
        Make.rule(x, 5, 0, 1, 10, 10);
        Make.rule(x, 5, 0, 10, 1, 10);
        Make.rule(x, 5, 0, 10, 10, 1);
        Make.rule(x, 6, 0, 1, 1, 10);
        Make.rule(x, 7, 0, 1, 1, 1);
        Make.rule(x, 5, 0, 1);
        Make.rule(x, 6, 0, 1, 1);
        Make.rule(x, 4, 0, 10, 10, 10);
        check.same("the only one there is", "7:0-3/0", tree(x, 0, 0, 3, NONE));
        check.same("which is the first one too", "7:0-3/0", tree(x, 0, 0, 3, 0));
    }

    private static void howManyNodesItHas(Check check) {
        ForestHouse x = State.FULL.made();
        check.due("the most", 470, () -> x.tree(0, 0, 24, 0));
        check.due("the most, the last of those with a number", 470, () -> x.tree(0, 0, 24, LAST));
        check.due("over 23", 450, () -> x.tree(0, 1, 24, NONE));
        check.due("over one", 10, () -> x.tree(0, 23, 24, NONE));
        check.due("the fewest", 1, () -> x.tree(9, 23, 24, 13));
        ForestHouse y = Make.row(0, 0, 0);
        Make.rule(y, 0, 0, 10, 10, 10);
        check.due("tokens are no nodes", 1, () -> y.tree(0, 0, 3, 0));
        ForestHouse chain = new ForestHouse();
        Make.rule(chain, 0, 0, 10, 0);
        Make.rule(chain, 0, 0, 10);
        Make.putTimes(chain, 24, 0);
        for (int n = 1; n <= 24; n++) {
            int to = n;
            check.due("a chain over " + n, to, () -> chain.tree(0, 0, to, 0));
        }
        leaningLeft(check);
    }

    /** All but the first token's nodes come behind the whole of the way down to it. */
    private static void leaningLeft(Check check) {
        for (int items = 2; items <= 3; items++) {
            ForestHouse x = new ForestHouse();
            Make.rule(x, 0, 0, items == 2 ? new int[] {0, 1} : new int[] {0, 1, 1});
            Make.rule(x, 0, 0, 10);
            Make.rule(x, 0, 0, 10, 10);
            Make.rule(x, 0, 1, 10);
            Make.putTimes(x, 24, 0);
            for (int n = 3; n <= 24; n++) {
                int to = n;
                int more = items - 1;
                boolean one = (n - 1) % more == 0;
                int levels = one ? (n - 1) / more : (n - 2) / more;
                int due = 1 + levels * items;
                check.due(items + " items leaning left over " + n, due, () -> x.tree(0, 0, to, NONE));
                check.due("its last node ends", to, () -> x.node(due - 1, 2));
                check.due("and lies within one", 1, () -> x.node(due - 1, 3));
                check.due("the first token's lies within all", levels, () -> x.node(levels, 3));
                check.due("the one behind begins behind it", one ? 1 : 2, () -> x.node(levels + 1, 1));
            }
        }
    }

    private static void indexOutOfBoundsExceptionAsForCount(Check check) {
        for (int k : new int[] {NONE, 0, LAST, -2, LAST + 1, Integer.MIN_VALUE, Integer.MAX_VALUE}) {
            Parts.refused(check, "tree " + k, (x, symbol, from, to) -> x.tree(symbol, from, to, k));
        }
        Parts.there(check, "tree", (x, symbol, from, to) -> x.tree(symbol, from, to, 0) - (9 - symbol));
    }

    private static void illegalArgumentExceptionForAnotherK(Check check) {
        for (State state : State.WITH_ROW) {
            for (int k : Make.and(-2, -3, LAST + 1, LAST + 2)) {
                if (k < NONE || k > LAST) {
                    refused(check, state, IllegalArgumentException.class, 0, 1, k);
                }
            }
            refused(check, state, IllegalArgumentException.class, 0, 3, -2);
            refused(check, state, IllegalArgumentException.class, 0, 3, LAST + 1);
            refused(check, state, IllegalArgumentException.class, 9, 2, -2);
            refused(check, state, IllegalArgumentException.class, 9, 2, LAST + 1);
        }
        ForestHouse x = million();
        check.due("of a million and one", 1000001, () -> x.count(4, 0, 6));
        check.dueThrow("the last has no number", IllegalArgumentException.class, () -> x.tree(4, 0, 6, LAST + 1));
        check.dueThrow("nor has one of many", IllegalArgumentException.class, () -> x.tree(2, 0, 24, LAST + 1));
    }

    private static void noSuchElementExceptionIfThereIsNoSuchTree(Check check) {
        for (State state : new State[] {State.ORDINARY, State.ASKED, State.CUT}) {
            for (int k : new int[] {NONE, 0, 1, LAST}) {
                refused(check, state, NoSuchElementException.class, 0, 2, k);
                refused(check, state, NoSuchElementException.class, 9, 1, k);
            }
            refused(check, state, NoSuchElementException.class, 0, 1, 2);
            refused(check, state, NoSuchElementException.class, 0, 1, 3);
            refused(check, state, NoSuchElementException.class, 0, 1, LAST);
            refused(check, state, NoSuchElementException.class, 0, 3, 4);
        }
        for (State state : State.WITHOUT_ROOM) {
            refused(check, state, NoSuchElementException.class, 0, 1, 14);
            refused(check, state, NoSuchElementException.class, 9, 2, 14 * 14);
            refused(check, state, NoSuchElementException.class, 0, 4, 5 * 14 * 14 * 14 * 14);
        }
        ForestHouse x = State.FULL.made();
        check.due("the last one there is", 10, () -> x.tree(0, 0, 1, 13));
        check.due("the last one there is over two", 21, () -> x.tree(9, 0, 2, 14 * 14 - 1));
        check.due("the last one there is over four", 70, () -> x.tree(0, 0, 4, 5 * 14 * 14 * 14 * 14 - 1));
        ForestHouse y = State.ORDINARY.made();
        check.due("the last of two", 2, () -> y.tree(0, 0, 1, 1));
        check.due("the last of four", 5, () -> y.tree(0, 0, 3, 3));
    }

    private static void refused(Check check, State state, Class<? extends RuntimeException> want, int symbol, int to,
            int k) {
        state.refuses(check, "tree " + k + " of " + symbol + " over " + to, want, x -> x.tree(symbol, 0, to, k));
    }
}
