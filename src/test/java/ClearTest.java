/** Promise 2: all productions, the row and the tree go. */
final class ClearTest {
    public static void main(String[] args) {
        Check check = new Check();
        ForestHouse x = new ForestHouse();
        x.clear();
        check.due("next(0) after clear of a new object", 0, () -> x.next(0));
        for (int round = 0; round < 3; round++) {
            x.production(0, 1, -1, -1, 1);
            x.production(1, 10, 0, -1, 1);
            x.production(1, 10, -1, -1, 1);
            x.put(0);
            x.put(0);
            check.due("count before clear", 1, () -> x.count(0, 0, 2));
            check.due("tree before clear", 4, () -> x.tree(0, 0, 2, 0));
            check.due("next before clear", 1025, () -> x.next(2));
            x.clear();
            check.due("next(0) after clear", 0, () -> x.next(0));
            check.dueThrow("next(1) after clear", IndexOutOfBoundsException.class, () -> x.next(1));
            check.dueThrow("count after clear", IndexOutOfBoundsException.class, () -> x.count(0, 0, 1));
            check.dueThrow("node after clear", IndexOutOfBoundsException.class, () -> x.node(0, 0));
            check.due("put after clear", 1, () -> x.put(0));
            check.due("count of nothing after clear", 0, () -> x.count(0, 0, 1));
            check.due("cost of nothing after clear", -1, () -> x.cost(0, 0, 1));
            check.due("the steps are gone too", 0, () -> x.production(1, 0, -1, -1, 1));
            check.due("and what they began with", 0, () -> x.next(0));
            check.due("the next production", 1, () -> x.production(0, 10, -1, -1, 7));
            check.due("count of the new productions", 1, () -> x.count(1, 0, 1));
            check.due("cost of the new productions", 8, () -> x.cost(1, 0, 1));
            check.dueThrow("the tree stays gone", IndexOutOfBoundsException.class, () -> x.node(0, 0));
            x.clear();
        }
        for (int i = 0; i < 24; i++) {
            x.production(0, 10, -1, -1, 0);
            x.put(0);
        }
        x.clear();
        check.due("room for productions again", 0, () -> x.production(0, 10, -1, -1, 0));
        check.due("room for tokens again", 1, () -> x.put(0));
        check.end();
    }
}
