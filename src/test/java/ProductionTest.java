/** Promise 3: production. */
final class ProductionTest {
    private static final int[] EDGES = {
        Integer.MIN_VALUE, -1000, -2, -1, 0, 1, 9, 10, 11, 19, 20, 21, 31, 32, 42, 1000, 1001, Integer.MAX_VALUE
    };

    private final Check check = new Check();

    public static void main(String[] args) {
        ProductionTest test = new ProductionTest();
        test.numbers();
        test.arguments();
        test.full();
        test.circles();
        test.longCircles();
        test.throwsChangeNothing();
        test.laterProductionsCount();
        test.check.end();
    }

    private void numbers() {
        ForestHouse x = new ForestHouse();
        for (int i = 0; i < 24; i++) {
            int number = i;
            check.due("production " + i, number, () -> x.production(number % 10, 10 + number % 10, -1, -1, number));
        }
    }

    private void arguments() {
        for (int v : EDGES) {
            boolean item = v >= 0 && v <= 19;
            one("head " + v, v >= 0 && v <= 9, v, 15, 12, 13, 5);
            one("a " + v, item, 0, v, 12, 13, 5);
            one("a " + v + " alone", item && v != 0, 0, v, -1, -1, 5);
            one("b " + v, item, 0, 11, v, 13, 5);
            one("b " + v + " last", item || v == -1, 0, 11, v, -1, 5);
            one("c " + v, item || v == -1, 0, 11, 12, v, 5);
            one("c " + v + " behind NONE", v == -1, 0, 11, -1, v, 5);
            one("cost " + v, v >= 0 && v <= 1000, 0, 11, 12, 13, v);
        }
    }

    private void one(String what, boolean good, int head, int a, int b, int c, int cost) {
        ForestHouse x = new ForestHouse();
        if (good) {
            check.due(what, 0, () -> x.production(head, a, b, c, cost));
        } else if (head == 0 && a == 0 && b == -1) {
            check.dueThrow(what, IllegalStateException.class, () -> x.production(head, a, b, c, cost));
        } else {
            check.dueThrow(what, IllegalArgumentException.class, () -> x.production(head, a, b, c, cost));
            check.due("the number behind it", 0, () -> x.production(0, 10, -1, -1, 0));
        }
    }

    private void full() {
        ForestHouse x = new ForestHouse();
        for (int i = 0; i < 24; i++) {
            x.production(1, 10, -1, -1, 0);
        }
        check.dueThrow("a 25th one", UnsupportedOperationException.class, () -> x.production(0, 10, -1, -1, 0));
        check.dueThrow("a wrong 25th one", IllegalArgumentException.class, () -> x.production(0, 20, -1, -1, 0));
        check.dueThrow("a 25th one in a circle", UnsupportedOperationException.class,
                () -> x.production(0, 0, -1, -1, 0));
        x.put(0);
        check.due("count with 24", 24, () -> x.count(1, 0, 1));
        check.due("count of what was refused", 0, () -> x.count(0, 0, 1));
    }

    private void circles() {
        ForestHouse x = new ForestHouse();
        for (int s = 0; s < 10; s++) {
            int symbol = s;
            check.dueThrow("a step to itself", IllegalStateException.class,
                    () -> x.production(symbol, symbol, -1, -1, 0));
        }
        check.dueThrow("wrong cost and a circle", IllegalArgumentException.class,
                () -> x.production(0, 0, -1, -1, 1001));
        check.due("a step", 0, () -> x.production(0, 1, -1, -1, 0));
        check.due("the same step again", 1, () -> x.production(0, 1, -1, -1, 0));
        check.dueThrow("the step back", IllegalStateException.class, () -> x.production(1, 0, -1, -1, 0));
        check.due("back with two items is no step", 2, () -> x.production(1, 0, 0, -1, 0));
        check.due("back with a token is no step", 3, () -> x.production(1, 0, 10, -1, 0));
        check.due("to itself with three items is no step", 4, () -> x.production(0, 0, 0, 0, 0));
        check.due("a token of the same number is no step", 5, () -> x.production(0, 10, -1, -1, 0));
        check.due("a second step to it", 6, () -> x.production(2, 1, -1, -1, 0));
        check.due("a way round", 7, () -> x.production(2, 0, -1, -1, 0));
        check.dueThrow("back over two", IllegalStateException.class, () -> x.production(1, 2, -1, -1, 0));
        check.dueThrow("back over one", IllegalStateException.class, () -> x.production(0, 2, -1, -1, 0));
    }

    /** Ten symbols in a chain, whose steps come in each of a few orders. */
    private void longCircles() {
        for (int stride : new int[] {1, 2, 4, 5, 7, 8}) {
            ForestHouse x = new ForestHouse();
            boolean[] made = new boolean[9];
            for (int i = 0; i < 9; i++) {
                int s = i * stride % 9;
                for (int more = 0; made[s] && more < 9; more++) {
                    s = (s + 1) % 9;
                }
                int symbol = s;
                int number = i;
                made[s] = true;
                check.due("a step of the chain", number, () -> x.production(symbol, symbol + 1, -1, -1, 0));
            }
            for (int above = 0; above < 10; above++) {
                for (int below = above; below < 10; below++) {
                    int head = below;
                    int target = above;
                    check.dueThrow("a way up the chain", IllegalStateException.class,
                            () -> x.production(head, target, -1, -1, 0));
                }
            }
            x.production(9, 13, -1, -1, 2);
            x.put(3);
            check.due("count through the chain", 1, () -> x.count(0, 0, 1));
            check.due("tree through the chain", 10, () -> x.tree(0, 0, 1, 0));
            check.due("next through the chain", 8, () -> x.next(0));
        }
    }

    private void throwsChangeNothing() {
        ForestHouse x = new ForestHouse();
        x.production(0, 10, 0, -1, 1);
        x.production(0, 10, -1, -1, 1);
        x.put(0);
        x.put(0);
        x.tree(0, 0, 2, 0);
        check.dueThrow("refused", IllegalArgumentException.class, () -> x.production(0, 11, 0, -1, -1));
        check.dueThrow("refused", IllegalStateException.class, () -> x.production(0, 0, -1, -1, 0));
        check.due("count as before", 1, () -> x.count(0, 0, 2));
        check.due("next as before", 1025, () -> x.next(2));
        check.due("node as before", 1, () -> x.node(1, 0));
        check.due("the next number", 2, () -> x.production(0, 11, -1, -1, 1));
    }

    private void laterProductionsCount() {
        ForestHouse x = new ForestHouse();
        x.put(0);
        x.put(1);
        check.due("before", 0, () -> x.count(0, 0, 2));
        x.production(0, 1, 2, -1, 3);
        x.production(1, 10, -1, -1, 4);
        check.due("not yet", 0, () -> x.count(0, 0, 2));
        x.production(2, 11, -1, -1, 5);
        check.due("then", 1, () -> x.count(0, 0, 2));
        check.due("its cost", 12, () -> x.cost(0, 0, 2));
        x.production(2, 11, -1, -1, 1);
        check.due("then two", 2, () -> x.count(0, 0, 2));
        check.due("their least cost", 8, () -> x.cost(0, 0, 2));
    }
}
