/** Promise 4: put. */
final class PutTest {
    public static void main(String[] args) {
        Check check = new Check();
        ForestHouse x = new ForestHouse();
        for (int token = 0; token < 10; token++) {
            x.production(token, 10 + token, -1, -1, token);
        }
        for (int wrong : new int[] {-1, 10, 11, 20, -10, Integer.MIN_VALUE, Integer.MAX_VALUE}) {
            check.dueThrow("put(" + wrong + ")", IllegalArgumentException.class, () -> x.put(wrong));
        }
        for (int i = 0; i < 24; i++) {
            int n = i;
            check.due("put number " + n, n + 1, () -> x.put(n * 7 % 10));
            check.due("the row has it", 1, () -> x.count(n * 7 % 10, n, n + 1));
            check.due("and no other one", 0, () -> x.count((n * 7 + 1) % 10, n, n + 1));
        }
        check.dueThrow("a 25th one", UnsupportedOperationException.class, () -> x.put(0));
        check.dueThrow("a wrong 25th one", IllegalArgumentException.class, () -> x.put(10));
        for (int i = 0; i < 24; i++) {
            int n = i;
            check.due("the row as it was", 1, () -> x.count(n * 7 % 10, n, n + 1));
        }
        check.dueThrow("no more of it", IndexOutOfBoundsException.class, () -> x.count(0, 24, 25));

        ForestHouse y = new ForestHouse();
        y.production(0, 10, 10, -1, 0);
        y.put(0);
        y.put(0);
        y.tree(0, 0, 2, 0);
        y.put(5);
        check.due("put leaves the tree", 2, () -> y.node(0, 2));
        check.due("and what has been counted", 1, () -> y.count(0, 0, 2));
        check.end();
    }
}
