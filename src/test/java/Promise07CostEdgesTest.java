/** Promise 7, sentence by sentence. */
final class Promise07CostEdgesTest {
    public static void main(String[] args) {
        Section section = new Section("Promise 7", "## Promise 7: cost", "## Promise 8");
        section.sentence("The least cost of such a tree;", Promise07CostEdgesTest::theLeastCostOfSuchATree);
        section.sentence("NONE if there is none.", Promise07CostEdgesTest::noneIfThereIsNone);
        section.sentence("IndexOutOfBoundsException as for count().",
                Promise07CostEdgesTest::indexOutOfBoundsExceptionAsForCount);
        section.end();
    }

    private static void theLeastCostOfSuchATree(Check check) {
        ForestHouse x = Make.row(0);
        Make.rule(x, 1000, 0, 10);
        check.due("the only one", 1000, () -> x.cost(0, 0, 1));
        Make.rule(x, 999, 0, 10);
        check.due("the later one is cheaper", 999, () -> x.cost(0, 0, 1));
        Make.rule(x, 1000, 0, 10);
        check.due("the earlier one is cheaper", 999, () -> x.cost(0, 0, 1));
        Make.rule(x, 0, 0, 10);
        check.due("for nothing", 0, () -> x.cost(0, 0, 1));
        Make.rule(x, 0, 1, 0);
        check.due("a step for nothing", 0, () -> x.cost(1, 0, 1));
        byEnds(check);
        ofMany(check);
        ForestHouse dear = State.FULL.made();
        check.due("the dearest there can be", 470000, () -> dear.cost(0, 0, 24));
        check.due("without nine steps", 461000, () -> dear.cost(9, 0, 24));
    }

    /** The cheapest way to part the part is the first, one between, or the last. */
    private static void byEnds(Check check) {
        for (int cheap = 1; cheap < 24; cheap++) {
            ForestHouse x = new ForestHouse();
            Make.rule(x, 3, 0, 1, 2);
            Make.rule(x, 1, 1, 10, 1);
            Make.rule(x, 1, 1, 10);
            Make.rule(x, 1, 1, 11);
            Make.rule(x, 1, 2, 10, 2);
            Make.rule(x, 1, 2, 11, 2);
            Make.rule(x, 900, 2, 10);
            Make.rule(x, 1, 2, 11);
            Make.rule(x, 1000, 0, 0, 0);
            Make.putTimes(x, cheap - 1, 0);
            x.put(0);
            Make.putTimes(x, 24 - cheap, 1);
            check.due("cheapest at " + cheap, 27, () -> x.cost(0, 0, 24));
        }
    }

    /** There are more trees than can be counted, and still a least cost. */
    private static void ofMany(Check check) {
        ForestHouse x = new ForestHouse();
        Make.rule(x, 1, 0, 0, 0);
        Make.rule(x, 1000, 0, 0, 0, 0);
        Make.rules(x, 10, 5, 0, 10);
        Make.rule(x, 4, 0, 10);
        Make.putTimes(x, 24, 0);
        check.due("many", Make.MANY, () -> x.count(0, 0, 24));
        check.due("their least cost", 23 + 24 * 4, () -> x.cost(0, 0, 24));
    }

    private static void noneIfThereIsNone(Check check) {
        ForestHouse x = Make.row(0, 1);
        for (int s = 0; s < 10; s++) {
            int symbol = s;
            check.due("without productions", -1, () -> x.cost(symbol, 0, 2));
        }
        Make.rule(x, 0, 0, 10, 1);
        check.due("without a tree of an item", -1, () -> x.cost(0, 0, 2));
        Make.rule(x, 0, 1, 12);
        check.due("nor over this token", -1, () -> x.cost(0, 0, 2));
        Make.rule(x, 0, 1, 11);
        check.due("for nothing is not none", 0, () -> x.cost(0, 0, 2));
        check.due("none over a shorter part", -1, () -> x.cost(0, 0, 1));
        check.due("none over the token behind", -1, () -> x.cost(0, 1, 2));
        x.put(1);
        check.due("none over a longer part", -1, () -> x.cost(0, 0, 3));
        x.clear();
        x.put(0);
        check.due("none behind clear", -1, () -> x.cost(1, 0, 1));
        addedUp(check);
    }

    /** Nothing is none with an item that has none, whatever the others cost. */
    private static void addedUp(Check check) {
        int[][] rules = {{2}, {2, 1}, {1, 2}, {2, 2}, {2, 1, 1}, {1, 2, 1}, {1, 1, 2}, {2, 2, 2}, {2, 12}, {12, 2}};
        for (int[] items : rules) {
            for (int cost : new int[] {0, 1, 2, 7, 1000}) {
                ForestHouse x = new ForestHouse();
                Make.rule(x, cost, 0, items);
                Make.rule(x, cost, 1, 12);
                Make.putTimes(x, 3, 2);
                for (int to = 1; to <= 3; to++) {
                    int end = to;
                    check.due("with an item that has none", -1, () -> x.cost(0, 0, end));
                }
            }
        }
    }

    private static void indexOutOfBoundsExceptionAsForCount(Check check) {
        Parts.refused(check, "cost", ForestHouse::cost);
        Parts.there(check, "cost", ForestHouse::cost);
    }
}
