/** Promise 9, sentence by sentence. */
final class Promise09NodeEdgesTest {
    private static final Class<IndexOutOfBoundsException> INDEX = IndexOutOfBoundsException.class;

    public static void main(String[] args) {
        Section section = new Section("Promise 9", "## Promise 9: node", "## Promise 10");
        section.sentence("Of the tree's node i its production (what = 0), where its part begins (1) and ends (2), how"
                + " many nodes it lies within (3).",
                Promise09NodeEdgesTest::ofTheTreesNodeIItsProductionWhereItsPartBeginsAndEndsHowManyNodesItLiesWithin);
        section.sentence("IndexOutOfBoundsException if there is no such node;",
                Promise09NodeEdgesTest::indexOutOfBoundsExceptionIfThereIsNoSuchNode);
        section.sentence("IllegalArgumentException for another what.",
                Promise09NodeEdgesTest::illegalArgumentExceptionForAnotherWhat);
        section.end();
    }

    private static void ofTheTreesNodeIItsProductionWhereItsPartBeginsAndEndsHowManyNodesItLiesWithin(Check check) {
        ForestHouse x = new ForestHouse();
        Make.rules(x, 23, 1, 0, 10);
        Make.rule(x, 0, 0, 10);
        Make.putTimes(x, 24, 0);
        x.tree(0, 0, 1, 0);
        check.same("production 0, the first token", "0:0-1/0", Make.nodes(x, 1));
        x.tree(0, 23, 24, 23);
        check.same("production 23, the last token", "23:23-24/0", Make.nodes(x, 1));
        theWholeOfTheLargest(check);
        theDeepestOnTheLeft(check);
        ofTheLastTreeAlone(check);
    }

    /** 24 tokens, each part through all ten symbols, parted behind its first token. */
    private static void theWholeOfTheLargest(Check check) {
        for (int what = 0; what < 4; what++) {
            int fact = what;
            ForestHouse x = State.FULL.made();
            for (int i = 0; i < 460; i++) {
                int node = i;
                check.due("node " + i + ", " + what, largest(node)[fact], () -> x.node(node, fact));
            }
            ForestHouse y = State.FULL.made();
            for (int i = 460; i < 470; i++) {
                int node = i;
                check.due("node " + i + ", " + what, largest(node)[fact], () -> y.node(node, fact));
            }
        }
    }

    private static int[] largest(int node) {
        int begin = node / 20;
        boolean one = node % 20 >= 10 || node >= 460;
        int step = node % 10;
        int production = step < 9 ? step : one ? 10 : 9;
        int depth = begin * 10 + (node >= 460 || !one ? 0 : 10) + step;
        boolean whole = node < 460 && !one;
        return new int[] {production, begin, whole || node >= 460 ? 24 : begin + 1, depth};
    }

    private static void theDeepestOnTheLeft(Check check) {
        ForestHouse x = new ForestHouse();
        for (int symbol = 0; symbol < 9; symbol++) {
            Make.rule(x, 0, symbol, symbol + 1);
        }
        Make.rule(x, 0, 9, 0, 10);
        Make.rule(x, 0, 9, 10);
        Make.putTimes(x, 24, 0);
        check.due("its nodes", 240, () -> x.tree(0, 0, 24, 0));
        for (int i = 0; i < 240; i += 10) {
            int node = i;
            check.due("node " + i + " ends", 24 - i / 10, () -> x.node(node, 2));
            check.due("node " + i + " lies within", node, () -> x.node(node, 3));
        }
        check.due("the deepest", 239, () -> x.node(239, 3));
        check.due("is the token's", 10, () -> x.node(239, 0));
    }

    /** Neither a refused call nor another question changes it; another tree does. */
    private static void ofTheLastTreeAlone(Check check) {
        ForestHouse x = State.ORDINARY.made();
        String before = Make.nodes(x, 6);
        check.same("tree 1 over five", "0:0-5/0 1:0-1/1 0:2-5/1 1:2-3/2 2:4-5/2 3:4-5/3", before);
        x.next(6);
        x.count(0, 0, 6);
        x.cost(1, 0, 1);
        check.same("behind questions", before, Make.nodes(x, 6));
        Make.rule(x, 0, 0, 10);
        x.put(1);
        x.cut(0);
        check.same("behind a production, put and cut", before, Make.nodes(x, 6));
        x.put(0);
        check.due("another tree", 1, () -> x.tree(0, 0, 1, 0));
        check.same("is the tree", "6:0-1/0", Make.nodes(x, 1));
    }

    private static void indexOutOfBoundsExceptionIfThereIsNoSuchNode(Check check) {
        for (State state : State.ALL) {
            for (int i : new int[] {-2, -1, 470, 471}) {
                for (int what : new int[] {0, 3, -1, 4}) {
                    refused(check, state, INDEX, i, what);
                }
            }
        }
        for (State state : new State[] {State.NEW, State.UNASKED, State.CLEARED}) {
            for (int i : new int[] {0, 1, 469}) {
                for (int what : new int[] {0, 3, -1, 4}) {
                    refused(check, state, INDEX, i, what);
                }
            }
        }
        for (State state : new State[] {State.ORDINARY, State.ASKED, State.CUT}) {
            for (int i : Make.and(6, 7, 469)) {
                refused(check, state, INDEX, i, 0);
                refused(check, state, INDEX, i, 4);
            }
        }
        for (int i : Make.and(470)) {
            if (i < 0 || i >= 470) {
                refused(check, State.FULL, INDEX, i, 3);
            }
        }
        ForestHouse x = State.FULL.made();
        check.due("the last of 470", 10, () -> x.node(469, 0));
        x.tree(0, 23, 24, 0);
        check.due("the last of ten", 10, () -> x.node(9, 0));
        check.dueThrow("the last of 470 is gone", INDEX, () -> x.node(469, 0));
        check.dueThrow("the one behind the last of ten too", INDEX, () -> x.node(10, 0));
    }

    private static void illegalArgumentExceptionForAnotherWhat(Check check) {
        for (State state : State.WITH_TREE) {
            for (int what : Make.and(-2, -1, 4, 5, 8)) {
                refused(check, state, IllegalArgumentException.class, 0, what);
            }
            for (int what : new int[] {-1, 4}) {
                refused(check, state, IllegalArgumentException.class, 1, what);
                refused(check, state, IllegalArgumentException.class, 5, what);
            }
        }
        refused(check, State.FULL, IllegalArgumentException.class, 469, 4);
        refused(check, State.FULL, IllegalArgumentException.class, 469, -1);
    }

    private static void refused(Check check, State state, Class<? extends RuntimeException> want, int i, int what) {
        state.refuses(check, "node(" + i + ", " + what + ")", want, x -> x.node(i, what));
    }
}
