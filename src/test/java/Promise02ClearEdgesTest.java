import java.util.NoSuchElementException;

/** Promise 2, sentence by sentence. */
final class Promise02ClearEdgesTest {
    public static void main(String[] args) {
        Section section = new Section("Promise 2", "## Promise 2: clear", "## Promise 3");
        section.sentence("All productions, the row and the tree go.",
                Promise02ClearEdgesTest::allProductionsTheRowAndTheTreeGo);
        section.end();
    }

    private static void allProductionsTheRowAndTheTreeGo(Check check) {
        for (State state : State.ALL) {
            productionsGo(check, state);
            theRowGoes(check, state);
            theTreeGoes(check, state);
            twice(check, state);
        }
        oneOfThemAlone(check);
    }

    private static ForestHouse cleared(State state) {
        ForestHouse x = state.made();
        x.clear();
        return x;
    }

    private static void productionsGo(Check check, State state) {
        ForestHouse x = cleared(state);
        check.due("nothing comes next", 0, () -> x.next(0));
        Make.puts(x, 0, 1, 0);
        for (int s = 0; s < 10; s++) {
            int symbol = s;
            for (int to = 1; to <= 3; to++) {
                int end = to;
                check.due("no trees", 0, () -> x.count(symbol, 0, end));
                check.due("no cost", -1, () -> x.cost(symbol, 0, end));
            }
            check.dueThrow("no tree", NoSuchElementException.class, () -> x.tree(symbol, 0, 1, -1));
        }
        check.due("nor behind a token", 0, () -> x.next(1));
        for (int s = 0; s < 9; s++) {
            int symbol = s;
            check.due("the steps go, and numbers begin anew", symbol, () -> Make.rule(x, 1, symbol + 1, symbol));
        }
        check.due("what comes next of a symbol that had trees", 9, () -> Make.rule(x, 1, 0, 10, 9));
        check.due("is nothing", 0, () -> x.next(0));
        for (int i = 10; i < 24; i++) {
            int number = i;
            check.due("room for 24", number, () -> Make.rule(x, 1, 0, 11));
        }
        check.due("new trees", 14, () -> x.count(9, 1, 2));
        check.due("new costs", 10, () -> x.cost(9, 1, 2));
    }

    private static void theRowGoes(Check check, State state) {
        ForestHouse x = cleared(state);
        check.dueThrow("no part", IndexOutOfBoundsException.class, () -> x.count(0, 0, 1));
        check.dueThrow("no beginning of one", IndexOutOfBoundsException.class, () -> x.next(1));
        check.dueThrow("none to be cut", IllegalArgumentException.class, () -> Make.cut(x, 1));
        check.due("the empty beginning", 0, () -> Make.cut(x, 0));
        for (int i = 1; i <= 24; i++) {
            int length = i;
            check.due("room for 24", length, () -> x.put(2));
        }
        Make.rule(x, 1, 0, 12);
        check.due("the new tokens", 1, () -> x.count(0, 0, 1));
        check.due("and the last of them", 1, () -> x.count(0, 23, 24));
    }

    private static void theTreeGoes(Check check, State state) {
        ForestHouse x = cleared(state);
        for (int i : new int[] {0, 1, 9, 10, 469}) {
            check.dueThrow("node " + i, IndexOutOfBoundsException.class, () -> x.node(i, 0));
        }
        Make.rule(x, 1, 3, 10);
        x.put(0);
        check.dueThrow("and stays away", IndexOutOfBoundsException.class, () -> x.node(0, 0));
        check.due("until another one", 1, () -> x.tree(3, 0, 1, 0));
        check.dueThrow("of which there is no more", IndexOutOfBoundsException.class, () -> x.node(1, 0));
    }

    private static void twice(Check check, State state) {
        ForestHouse x = cleared(state);
        check.due("clear again", 0, () -> Make.clear(x));
        check.due("nothing comes next", 0, () -> x.next(0));
        check.due("the first number", 0, () -> Make.rule(x, 0, 0, 19));
        check.due("the first token", 1, () -> x.put(9));
        check.due("a tree", 1, () -> x.count(0, 0, 1));
    }

    private static void oneOfThemAlone(Check check) {
        ForestHouse x = new ForestHouse();
        Make.rule(x, 0, 0, 10);
        x.clear();
        check.due("productions alone", 0, () -> x.next(0));
        Make.putTimes(x, 24, 0);
        x.clear();
        check.due("a row alone", 1, () -> x.put(0));
        Make.rule(x, 0, 0, 10);
        x.tree(0, 0, 1, 0);
        x.cut(0);
        x.clear();
        check.dueThrow("a tree whose row is gone", IndexOutOfBoundsException.class, () -> x.node(0, 0));
    }
}
