/** Promise 7: cost. */
final class CostTest {
    public static void main(String[] args) {
        Check check = new Check();
        ForestHouse x = new ForestHouse();
        x.production(0, 0, 10, 0, 5);
        x.production(0, 11, -1, -1, 2);
        x.production(0, 1, -1, -1, 1);
        x.production(1, 11, -1, -1, 0);
        x.production(1, 11, 10, 11, 30);
        x.production(2, 0, -1, -1, 0);
        for (int i = 0; i < 5; i++) {
            x.put(i % 2 == 0 ? 1 : 0);
        }
        check.due("the cheaper of two", 1, () -> x.cost(0, 0, 1));
        check.due("its own cost and its items'", 7, () -> x.cost(0, 0, 3));
        check.due("as often as they stand in it", 13, () -> x.cost(0, 0, 5));
        check.due("no tree", -1, () -> x.cost(0, 0, 2));
        check.due("no production", -1, () -> x.cost(7, 0, 5));
        check.due("a step for nothing", 13, () -> x.cost(2, 0, 5));
        check.due("dear alone", 30, () -> x.cost(1, 2, 5));
        bounds(check);
        x.clear();
        for (int i = 0; i < 9; i++) {
            x.production(i, i + 1, -1, -1, 1000);
        }
        x.production(9, 10, -1, -1, 1000);
        x.production(9, 0, 0, -1, 1000);
        for (int i = 0; i < 24; i++) {
            x.put(0);
        }
        check.due("the dearest tree there can be", 470000, () -> x.cost(0, 0, 24));
        x.clear();
        x.production(0, 10, 0, -1, 0);
        x.production(0, 10, -1, -1, 0);
        x.put(0);
        x.put(0);
        check.due("for nothing", 0, () -> x.cost(0, 0, 2));
        check.end();
    }

    private static void bounds(Check check) {
        int[] edges = {Integer.MIN_VALUE, -1, 0, 1, 4, 5, 6, 9, 10, 24, 25, Integer.MAX_VALUE};
        for (int symbol : edges) {
            ForestHouse x = Make.row(0, 0, 0, 0, 0);
            for (int from : edges) {
                for (int to : edges) {
                    if (symbol < 0 || symbol > 9 || from < 0 || from >= to || to > 5) {
                        check.dueThrow("cost(" + symbol + ", " + from + ", " + to + ")",
                                IndexOutOfBoundsException.class, () -> x.cost(symbol, from, to));
                    }
                }
            }
        }
    }
}
