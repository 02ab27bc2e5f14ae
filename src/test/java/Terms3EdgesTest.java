import java.util.NoSuchElementException;

/** The document's Terms, 3, and what stands behind them, sentence by sentence. */
final class Terms3EdgesTest {
    private static final int NONE = ForestHouse.NONE;
    private static final Class<IllegalArgumentException> ARGUMENT = IllegalArgumentException.class;
    private static final Class<IndexOutOfBoundsException> INDEX = IndexOutOfBoundsException.class;

    public static void main(String[] args) {
        Section section = new Section("Terms 3", "\n3. ", "## Promise 1");
        section.sentence("A row COMES of a symbol if there is a tree of it over the whole row.",
                Terms3EdgesTest::aRowComesOfASymbolIfThereIsATreeOverTheWholeRow);
        section.sentence("What can come NEXT behind the first m tokens of the row: the tokens with which, behind these,"
                + " some row begins that comes of symbol 0.", Terms3EdgesTest::whatCanComeNextBehindTheFirstMTokens);
        section.sentence("A call that throws changes nothing.", Terms3EdgesTest::aCallThatThrowsChangesNothing);
        section.sentence("The constants: `NONE = -1`: There is none.", Terms3EdgesTest::noneIsMinus1);
        section.end();
    }

    private static void aRowComesOfASymbolIfThereIsATreeOverTheWholeRow(Check check) {
        ForestHouse x = new ForestHouse();
        Make.rule(x, 0, 0, 10);
        Make.rule(x, 0, 0, 10, 0, 10);
        Make.rule(x, 0, 1, 10, 1);
        Make.rule(x, 0, 1, 10);
        Make.putTimes(x, 24, 0);
        check.due("an empty row never comes", 1, () -> x.next(0));
        for (int m = 1; m <= 24; m++) {
            int to = m;
            check.due("a row of " + m, 1 + m % 2 * 1024, () -> x.next(to));
        }
        ForestHouse y = Make.row(1, 0);
        Make.rule(y, 0, 0, 10);
        check.due("a part of the row alone", 0, () -> y.next(2));
        check.due("the part comes of it", 1, () -> y.count(0, 1, 2));
        ForestHouse other = Make.row(0);
        Make.rule(other, 0, 1, 10);
        check.due("a row that comes of another symbol", 0, () -> other.next(1));
    }

    private static void whatCanComeNextBehindTheFirstMTokens(Check check) {
        check.due("no productions, no tokens", 0, () -> new ForestHouse().next(0));
        for (int t = 0; t < 10; t++) {
            int token = t;
            ForestHouse x = Make.row(token);
            Make.rule(x, 0, 0, 10 + token, 10 + (token + 1) % 10);
            check.due("only token " + token, 1 << token, () -> x.next(0));
            check.due("only the one behind token " + token, 1 << (token + 1) % 10, () -> x.next(1));
        }
        endless(check);
        beyondTheRow(check);
        deepBeginnings(check);
    }

    /** A token begins no row if the row has no end. */
    private static void endless(Check check) {
        int[][] rules = {{10, 0}, {0, 10}, {10, 0, 11}, {10, 11, 0}, {0, 0}, {0, 0, 0}, {10, 5}, {10, 10, 5}, {5, 10}};
        for (int[] items : rules) {
            ForestHouse x = Make.row(0, 0);
            Make.rule(x, 0, 0, items);
            ForestHouse y = Make.row(0, 0);
            Make.rule(y, 0, 0, 10, 1);
            Make.rule(y, 0, 1, java.util.Arrays.stream(items).map(item -> item == 0 ? 1 : item).toArray());
            for (int m = 0; m <= 2; m++) {
                int to = m;
                check.due("no end, behind " + m, 0, () -> x.next(to));
                check.due("no end of the last item, behind " + m, 0, () -> y.next(to));
            }
        }
    }

    /** The rows that begin so may be longer than the 24 tokens that the row here can have. */
    private static void beyondTheRow(Check check) {
        ForestHouse x = new ForestHouse();
        Make.rule(x, 0, 0, 10, 0, 11);
        Make.rule(x, 0, 0, 10, 11);
        Make.putTimes(x, 24, 0);
        for (int m = 0; m <= 24; m++) {
            int to = m;
            check.due("behind " + m, m == 0 ? 1 : 3, () -> x.next(to));
        }
        x.cut(13);
        Make.putTimes(x, 11, 1);
        check.due("behind 24, two due", 2, () -> x.next(24));
        x.cut(12);
        Make.putTimes(x, 12, 1);
        check.due("behind 24, whole", 1024, () -> x.next(24));
        x.cut(11);
        Make.putTimes(x, 13, 1);
        check.due("behind one too many", 0, () -> x.next(24));
    }

    /** The beginning lies in the first, second or third item, and in theirs again. */
    private static void deepBeginnings(Check check) {
        ForestHouse x = Make.row(0, 1, 2, 3, 4);
        Make.rule(x, 0, 0, 1, 2, 3);
        Make.rule(x, 0, 1, 10, 11);
        Make.rule(x, 0, 2, 12);
        Make.rule(x, 0, 3, 4, 15);
        Make.rule(x, 0, 4, 13, 14);
        for (int m = 0; m <= 5; m++) {
            int to = m;
            check.due("behind " + m, 1 << m, () -> x.next(to));
        }
        x.put(5);
        check.due("behind all", 1024, () -> x.next(6));
        x.cut(4);
        x.put(9);
        check.due("behind a wrong one", 0, () -> x.next(5));
        check.due("before a wrong one", 1 << 4, () -> x.next(4));
    }

    /** Every call of the face that can throw, for every reason, in every state. */
    private static void aCallThatThrowsChangesNothing(Check check) {
        for (State state : State.ALL) {
            wrongProductions(check, state);
            wrongRows(check, state);
            wrongParts(check, state);
        }
        for (State state : State.WITHOUT_ROOM) {
            state.refuses(check, "a 25th production", UnsupportedOperationException.class, x -> Make.rule(x, 0, 8, 18));
            state.refuses(check, "a 25th token", UnsupportedOperationException.class, x -> x.put(5));
        }
        for (State state : State.WITH_ROOM) {
            state.refuses(check, "a step to itself", IllegalStateException.class, x -> Make.rule(x, 0, 8, 8));
        }
        for (State state : new State[] {State.ORDINARY, State.ASKED, State.CUT}) {
            state.refuses(check, "a step back", IllegalStateException.class, x -> Make.rule(x, 0, 1, 0));
            state.refuses(check, "two steps back", IllegalStateException.class, x -> Make.rule(x, 0, 1, 2));
        }
        for (State state : State.WITH_ROW) {
            state.refuses(check, "tree(0, 0, 1, -2)", ARGUMENT, x -> x.tree(0, 0, 1, -2));
            state.refuses(check, "tree(0, 0, 1, 1000000)", ARGUMENT, x -> x.tree(0, 0, 1, 1000000));
            state.refuses(check, "tree(0, 0, 1, 999999)", NoSuchElementException.class, x -> x.tree(0, 0, 1, 999999));
            state.refuses(check, "tree(0, 0, 1, 14)", NoSuchElementException.class, x -> x.tree(0, 0, 1, 14));
        }
        for (State state : State.WITH_TREE) {
            state.refuses(check, "node(0, -1)", ARGUMENT, x -> x.node(0, -1));
            state.refuses(check, "node(0, 4)", ARGUMENT, x -> x.node(0, 4));
        }
        for (State state : new State[] {State.ORDINARY, State.ASKED}) {
            state.refuses(check, "the best of none", NoSuchElementException.class, x -> x.tree(0, 0, 6, NONE));
            state.refuses(check, "the first of none", NoSuchElementException.class, x -> x.tree(9, 0, 6, 0));
        }
    }

    private static void wrongProductions(Check check, State state) {
        state.refuses(check, "head -1", ARGUMENT, x -> x.production(-1, 10, NONE, NONE, 0));
        state.refuses(check, "head 10", ARGUMENT, x -> x.production(10, 10, NONE, NONE, 0));
        state.refuses(check, "no item", ARGUMENT, x -> x.production(0, NONE, NONE, NONE, 0));
        state.refuses(check, "no first item", ARGUMENT, x -> x.production(0, NONE, 10, 10, 0));
        state.refuses(check, "no second item", ARGUMENT, x -> x.production(0, 10, NONE, 10, 0));
        state.refuses(check, "item 20", ARGUMENT, x -> x.production(0, 20, NONE, NONE, 0));
        state.refuses(check, "second item 20", ARGUMENT, x -> x.production(0, 10, 20, NONE, 0));
        state.refuses(check, "third item 20", ARGUMENT, x -> x.production(0, 10, 10, 20, 0));
        state.refuses(check, "cost -1", ARGUMENT, x -> x.production(0, 10, NONE, NONE, -1));
        state.refuses(check, "cost 1001", ARGUMENT, x -> x.production(0, 3, NONE, NONE, 1001));
    }

    private static void wrongRows(Check check, State state) {
        state.refuses(check, "put(-1)", ARGUMENT, x -> x.put(-1));
        state.refuses(check, "put(10)", ARGUMENT, x -> x.put(10));
        state.refuses(check, "cut(-1)", ARGUMENT, x -> Make.cut(x, -1));
        state.refuses(check, "cut(25)", ARGUMENT, x -> Make.cut(x, 25));
        state.refuses(check, "next(-1)", INDEX, x -> x.next(-1));
        state.refuses(check, "next(25)", INDEX, x -> x.next(25));
        state.refuses(check, "node(-1, 0)", INDEX, x -> x.node(-1, 0));
        state.refuses(check, "node(470, 0)", INDEX, x -> x.node(470, 0));
    }

    private static void wrongParts(Check check, State state) {
        int[][] parts = {{-1, 0, 1}, {10, 0, 1}, {0, -1, 1}, {0, 0, 0}, {0, 1, 0}, {0, 0, 25}, {0, 24, 25}};
        for (int[] p : parts) {
            String part = "(" + p[0] + ", " + p[1] + ", " + p[2];
            state.refuses(check, "count" + part + ")", INDEX, x -> x.count(p[0], p[1], p[2]));
            state.refuses(check, "cost" + part + ")", INDEX, x -> x.cost(p[0], p[1], p[2]));
            state.refuses(check, "tree" + part + ", 0)", INDEX, x -> x.tree(p[0], p[1], p[2], 0));
            state.refuses(check, "tree" + part + ", -1)", INDEX, x -> x.tree(p[0], p[1], p[2], NONE));
        }
    }

    private static void noneIsMinus1(Check check) {
        check.due("NONE", -1, () -> ForestHouse.NONE);
        ForestHouse x = Make.row(0, 1);
        check.due("a production with it", 0, () -> x.production(0, 10, -1, -1, 9));
        check.due("and with an item more", 1, () -> x.production(1, 10, 11, -1, 9));
        check.due("the cost of none", -1, () -> x.cost(0, 0, 2));
        check.due("the best one by it", 1, () -> x.tree(1, 0, 2, -1));
    }
}
