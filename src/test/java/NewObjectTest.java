/** Promise 1: no productions, an empty row, no tree. */
final class NewObjectTest {
    public static void main(String[] args) {
        Check check = new Check();
        ForestHouse x = new ForestHouse();
        check.due("next(0) of a new object", 0, () -> x.next(0));
        check.dueThrow("next(1) of a new object", IndexOutOfBoundsException.class, () -> x.next(1));
        check.dueThrow("count(0, 0, 1) of a new object", IndexOutOfBoundsException.class, () -> x.count(0, 0, 1));
        check.dueThrow("cost(0, 0, 1) of a new object", IndexOutOfBoundsException.class, () -> x.cost(0, 0, 1));
        check.dueThrow("tree(0, 0, 1, 0) of a new object", IndexOutOfBoundsException.class, () -> x.tree(0, 0, 1, 0));
        check.dueThrow("node(0, 0) of a new object", IndexOutOfBoundsException.class, () -> x.node(0, 0));
        check.dueThrow("cut(1) of a new object", IllegalArgumentException.class, () -> {
            x.cut(1);
            return 0;
        });
        check.due("cut(0) of a new object", 0, () -> {
            x.cut(0);
            return 0;
        });
        check.due("the first token", 1, () -> x.put(0));
        for (int symbol = 0; symbol < 10; symbol++) {
            int s = symbol;
            check.due("count without productions", 0, () -> x.count(s, 0, 1));
            check.due("cost without productions", -1, () -> x.cost(s, 0, 1));
        }
        check.due("the first production", 0, () -> x.production(0, 10, -1, -1, 0));

        ForestHouse y = new ForestHouse();
        check.due("another object has productions of its own", 0, () -> y.next(0));
        check.dueThrow("and a row of its own", IndexOutOfBoundsException.class, () -> y.next(1));
        check.end();
    }
}
