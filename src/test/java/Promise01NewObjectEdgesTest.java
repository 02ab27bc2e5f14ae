import java.util.NoSuchElementException;

/** Promise 1, sentence by sentence. */
final class Promise01NewObjectEdgesTest {
    public static void main(String[] args) {
        Section section = new Section("Promise 1", "## Promise 1: A new object", "## Promise 2");
        section.sentence("No productions, an empty row, no tree.",
                Promise01NewObjectEdgesTest::noProductionsAnEmptyRowNoTree);
        section.end();
    }

    private static void noProductionsAnEmptyRowNoTree(Check check) {
        noProductions(check);
        anEmptyRow(check);
        noTree(check);
        alsoBesideAFullOne(check);
    }

    private static void noProductions(Check check) {
        ForestHouse x = new ForestHouse();
        check.due("nothing comes next", 0, () -> x.next(0));
        check.due("the first number", 0, () -> Make.rule(x, 0, 9, 19));
        for (int i = 1; i < 24; i++) {
            int number = i;
            check.due("room for 24", number, () -> Make.rule(x, 0, 9, 19));
        }
        ForestHouse y = Make.row(0, 1, 2);
        for (int s = 0; s < 10; s++) {
            int symbol = s;
            check.due("no trees of symbol " + s, 0, () -> y.count(symbol, 0, 3));
            check.due("no cost of symbol " + s, -1, () -> y.cost(symbol, 0, 1));
            check.dueThrow("no first tree of symbol " + s, NoSuchElementException.class,
                    () -> y.tree(symbol, 0, 1, 0));
            check.dueThrow("no best tree of symbol " + s, NoSuchElementException.class,
                    () -> y.tree(symbol, 0, 1, -1));
        }
        ForestHouse z = new ForestHouse();
        for (int s = 0; s < 9; s++) {
            int symbol = s;
            check.due("no steps that refuse another", symbol, () -> Make.rule(z, 0, symbol + 1, symbol));
        }
    }

    private static void anEmptyRow(Check check) {
        State.NEW.refuses(check, "next(1)", IndexOutOfBoundsException.class, x -> x.next(1));
        State.NEW.refuses(check, "count(0, 0, 1)", IndexOutOfBoundsException.class, x -> x.count(0, 0, 1));
        State.NEW.refuses(check, "count(0, 0, 0)", IndexOutOfBoundsException.class, x -> x.count(0, 0, 0));
        State.NEW.refuses(check, "cost(0, 0, 1)", IndexOutOfBoundsException.class, x -> x.cost(0, 0, 1));
        State.NEW.refuses(check, "tree(0, 0, 1, 0)", IndexOutOfBoundsException.class, x -> x.tree(0, 0, 1, 0));
        State.NEW.refuses(check, "cut(1)", IllegalArgumentException.class, x -> Make.cut(x, 1));
        ForestHouse x = new ForestHouse();
        check.due("cut to none", 0, () -> Make.cut(x, 0));
        check.due("the first token", 1, () -> x.put(9));
    }

    private static void noTree(Check check) {
        for (int what = -1; what <= 4; what++) {
            int fact = what;
            State.NEW.refuses(check, "node(0, " + what + ")", IndexOutOfBoundsException.class, x -> x.node(0, fact));
        }
        ForestHouse x = Make.row(0);
        Make.rule(x, 0, 0, 10);
        check.due("a count makes none", 1, () -> x.count(0, 0, 1));
        check.due("a cost makes none", 0, () -> x.cost(0, 0, 1));
        check.dueThrow("there is still none", IndexOutOfBoundsException.class, () -> x.node(0, 0));
    }

    private static void alsoBesideAFullOne(Check check) {
        ForestHouse full = State.FULL.made();
        ForestHouse x = new ForestHouse();
        check.due("nothing comes next beside a full one", 0, () -> x.next(0));
        check.dueThrow("an empty row beside a full one", IndexOutOfBoundsException.class, () -> x.next(1));
        check.dueThrow("no tree beside a full one", IndexOutOfBoundsException.class, () -> x.node(0, 0));
        check.due("the full one is as it was", 1025, () -> full.next(24));
        check.due("with its tree", 24, () -> full.node(469, 2));
    }
}
