/** Promise 9: node. */
final class NodeTest {
    private static final int[][] DUE = {
        {0, 1, 6, 0}, {1, 1, 4, 1}, {4, 1, 4, 2}, {5, 2, 3, 3}, {6, 2, 3, 4}, {6, 5, 6, 1},
    };

    public static void main(String[] args) {
        Check check = new Check();
        ForestHouse x = new ForestHouse();
        for (int what : new int[] {-1, 0, 3, 4}) {
            check.dueThrow("node(0, " + what + ") without a tree", IndexOutOfBoundsException.class,
                    () -> x.node(0, what));
        }
        x.production(0, 1, 10, 3, 1);
        x.production(1, 2, -1, -1, 1);
        x.production(9, 11, -1, -1, 1);
        x.production(9, 11, -1, -1, 1);
        x.production(2, 11, 4, 11, 1);
        x.production(4, 3, -1, -1, 1);
        x.production(3, 12, -1, -1, 1);
        for (int token : new int[] {9, 1, 2, 1, 0, 2}) {
            x.put(token);
        }
        check.due("the tree", DUE.length, () -> x.tree(0, 1, 6, 0));
        same(check, x, "node");
        check.dueThrow("another tree that isn't there", java.util.NoSuchElementException.class,
                () -> x.tree(0, 1, 6, 1));
        same(check, x, "node as before");
        for (int i : new int[] {-1, DUE.length, 469, 470, Integer.MIN_VALUE, Integer.MAX_VALUE}) {
            for (int what : new int[] {0, 3, -1, 4}) {
                check.dueThrow("node(" + i + ", " + what + ")", IndexOutOfBoundsException.class,
                        () -> x.node(i, what));
            }
        }
        for (int what : new int[] {-1, 4, 5, Integer.MIN_VALUE, Integer.MAX_VALUE}) {
            check.dueThrow("node(0, " + what + ")", IllegalArgumentException.class, () -> x.node(0, what));
            check.dueThrow("the last node's " + what, IllegalArgumentException.class,
                    () -> x.node(DUE.length - 1, what));
        }
        x.count(0, 0, 6);
        x.cost(0, 0, 6);
        x.next(6);
        x.production(0, 1, 10, 3, 0);
        x.put(0);
        x.cut(0);
        same(check, x, "node after other calls");
        x.put(1);
        check.due("a new tree", 1, () -> x.tree(9, 0, 1, 1));
        check.due("its production", 3, () -> x.node(0, 0));
        check.dueThrow("no second node", IndexOutOfBoundsException.class, () -> x.node(1, 0));
        check.end();
    }

    private static void same(Check check, ForestHouse x, String what) {
        for (int i = 0; i < DUE.length; i++) {
            for (int w = 0; w < 4; w++) {
                int node = i;
                int fact = w;
                check.due(what + "(" + i + ", " + w + ")", DUE[i][w], () -> x.node(node, fact));
            }
        }
    }
}
