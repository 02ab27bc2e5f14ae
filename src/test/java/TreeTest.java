import java.util.NoSuchElementException;

/** Promise 8: tree; the order of trees and the best one. */
final class TreeTest {
    private final Check check = new Check();

    public static void main(String[] args) {
        TreeTest test = new TreeTest();
        test.wrong();
        test.orderByProduction();
        test.orderByEnds();
        test.orderByItems();
        test.best();
        test.edgeOfNumbers();
        test.deep();
        test.check.end();
    }

    /** The nodes as a text: production, begin and end of each. */
    private static String nodes(ForestHouse x, int size) {
        StringBuilder text = new StringBuilder();
        for (int i = 0; i < size; i++) {
            text.append(x.node(i, 0)).append(':').append(x.node(i, 1)).append('-').append(x.node(i, 2)).append(' ');
        }
        return text.toString().trim();
    }

    private void isTree(ForestHouse x, int symbol, int to, int k, String want) {
        check.same("tree " + k, want, nodes(x, x.tree(symbol, 0, to, k)));
    }

    private void wrong() {
        ForestHouse x = new ForestHouse();
        x.production(0, 0, 0, -1, 0);
        x.production(0, 10, -1, -1, 0);
        x.put(0);
        x.put(0);
        x.put(0);
        check.due("tree 1", 5, () -> x.tree(0, 0, 3, 1));
        String before = nodes(x, 5);
        for (int k : new int[] {-2, 1000000, Integer.MIN_VALUE, Integer.MAX_VALUE}) {
            check.dueThrow("k " + k, IllegalArgumentException.class, () -> x.tree(0, 0, 3, k));
            check.dueThrow("k " + k + " and no such symbol", IndexOutOfBoundsException.class,
                    () -> x.tree(10, 0, 3, k));
            check.dueThrow("k " + k + " and no such part", IndexOutOfBoundsException.class,
                    () -> x.tree(0, 0, 4, k));
            check.dueThrow("k " + k + " and no tree", IllegalArgumentException.class, () -> x.tree(5, 0, 3, k));
        }
        for (int k : new int[] {2, 3, 999999}) {
            check.dueThrow("k " + k, NoSuchElementException.class, () -> x.tree(0, 0, 3, k));
        }
        check.dueThrow("the best of none", NoSuchElementException.class, () -> x.tree(1, 0, 3, -1));
        check.dueThrow("the first of none", NoSuchElementException.class, () -> x.tree(1, 0, 3, 0));
        int[][] parts = {{-1, 0, 1}, {10, 0, 1}, {0, -1, 1}, {0, 0, 0}, {0, 1, 1}, {0, 2, 1}, {0, 0, 4}, {0, 3, 4}};
        for (int[] p : parts) {
            check.dueThrow("no part", IndexOutOfBoundsException.class, () -> x.tree(p[0], p[1], p[2], 0));
        }
        check.same("the tree as before", before, nodes(x, 5));
        check.dueThrow("and no more of it", IndexOutOfBoundsException.class, () -> x.node(5, 0));
    }

    private void orderByProduction() {
        ForestHouse x = new ForestHouse();
        x.production(0, 1, -1, -1, 9);
        x.production(1, 10, 10, -1, 0);
        x.production(0, 10, 10, -1, 9);
        x.production(0, 10, 1, -1, 0);
        x.production(1, 10, -1, -1, 0);
        x.production(1, 2, -1, -1, 0);
        x.production(2, 10, -1, -1, 0);
        x.put(0);
        x.put(0);
        isTree(x, 0, 2, 0, "0:0-2 1:0-2");
        isTree(x, 0, 2, 1, "2:0-2");
        isTree(x, 0, 2, 2, "3:0-2 4:1-2");
        isTree(x, 0, 2, 3, "3:0-2 5:1-2 6:1-2");
        check.dueThrow("no fifth", NoSuchElementException.class, () -> x.tree(0, 0, 2, 4));
    }

    private void orderByEnds() {
        ForestHouse x = new ForestHouse();
        x.production(0, 1, 1, 1, 0);
        x.production(1, 10, -1, -1, 0);
        x.production(1, 10, 10, -1, 0);
        x.production(1, 10, 10, 10, 0);
        for (int i = 0; i < 5; i++) {
            x.put(0);
        }
        isTree(x, 0, 5, 0, "0:0-5 1:0-1 1:1-2 3:2-5");
        isTree(x, 0, 5, 1, "0:0-5 1:0-1 2:1-3 2:3-5");
        isTree(x, 0, 5, 2, "0:0-5 1:0-1 3:1-4 1:4-5");
        isTree(x, 0, 5, 3, "0:0-5 2:0-2 1:2-3 2:3-5");
        isTree(x, 0, 5, 4, "0:0-5 2:0-2 2:2-4 1:4-5");
        isTree(x, 0, 5, 5, "0:0-5 3:0-3 1:3-4 1:4-5");
        check.due("count", 6, () -> x.count(0, 0, 5));
    }

    private void orderByItems() {
        ForestHouse x = new ForestHouse();
        x.production(0, 1, 2, 3, 0);
        x.production(3, 10, -1, -1, 0);
        x.production(2, 10, -1, -1, 0);
        x.production(1, 10, -1, -1, 0);
        x.production(1, 10, -1, -1, 0);
        x.production(2, 10, -1, -1, 0);
        x.production(2, 10, -1, -1, 0);
        x.production(3, 10, -1, -1, 0);
        for (int i = 0; i < 3; i++) {
            x.put(0);
        }
        int[] firsts = {3, 4};
        int[] seconds = {2, 5, 6};
        int[] thirds = {1, 7};
        int k = 0;
        for (int a : firsts) {
            for (int b : seconds) {
                for (int c : thirds) {
                    isTree(x, 0, 3, k, "0:0-3 " + a + ":0-1 " + b + ":1-2 " + c + ":2-3");
                    k++;
                }
            }
        }
        int all = k;
        check.dueThrow("no more", NoSuchElementException.class, () -> x.tree(0, 0, 3, all));
    }

    private void best() {
        ForestHouse x = new ForestHouse();
        x.production(0, 0, 0, -1, 1);
        x.production(0, 10, -1, -1, 7);
        x.production(0, 1, -1, -1, 0);
        x.production(1, 10, -1, -1, 7);
        x.production(1, 10, 10, -1, 15);
        x.put(0);
        isTree(x, 0, 1, -1, "1:0-1");
        x.put(0);
        // Two parts for 15 as well as the step for 15: the lesser production's number goes first.
        isTree(x, 0, 2, -1, "0:0-2 1:0-1 1:1-2");
        x.put(0);
        check.due("its cost", 23, () -> x.cost(0, 0, 3));
        isTree(x, 0, 3, -1, "0:0-3 1:0-1 0:1-3 1:1-2 1:2-3");
        x.production(1, 10, 10, -1, 14);
        isTree(x, 0, 2, -1, "2:0-2 5:0-2");
        isTree(x, 0, 3, -1, "0:0-3 1:0-1 2:1-3 5:1-3");
        x.production(0, 10, 10, 10, 22);
        isTree(x, 0, 3, -1, "0:0-3 1:0-1 2:1-3 5:1-3");
        x.production(0, 10, 10, 10, 21);
        isTree(x, 0, 3, -1, "7:0-3");
    }

    private void edgeOfNumbers() {
        ForestHouse x = new ForestHouse();
        for (int i = 0; i < 10; i++) {
            x.production(0, 10, -1, -1, 0);
        }
        x.production(1, 0, 0, 0, 0);
        x.production(2, 1, 1, -1, 0);
        x.production(2, 10, 2, -1, 0);
        x.production(3, 1, 1, 1, 0);
        for (int i = 0; i < 6; i++) {
            x.put(0);
        }
        check.due("a million", 1000000, () -> x.count(2, 0, 6));
        isTree(x, 2, 6, 123456, "11:0-6 10:0-3 1:0-1 2:1-2 3:2-3 10:3-6 4:3-4 5:4-5 6:5-6");
        isTree(x, 2, 6, 999999, "11:0-6 10:0-3 9:0-1 9:1-2 9:2-3 10:3-6 9:3-4 9:4-5 9:5-6");
        x.put(0);
        x.put(0);
        x.put(0);
        check.due("many", 1000000000, () -> x.count(3, 0, 9));
        isTree(x, 3, 9, 654321,
                "13:0-9 10:0-3 0:0-1 0:1-2 0:2-3 10:3-6 6:3-4 5:4-5 4:5-6 10:6-9 3:6-7 2:7-8 1:8-9");
    }

    /** The most nodes and the deepest tree that there can be. */
    private void deep() {
        ForestHouse x = new ForestHouse();
        for (int i = 0; i < 9; i++) {
            x.production(i, i + 1, -1, -1, 1);
        }
        x.production(9, 0, 0, -1, 1);
        x.production(9, 10, -1, -1, 1);
        for (int i = 0; i < 24; i++) {
            x.put(0);
        }
        for (int k : new int[] {-1, 0, 1, 77777, 999999}) {
            check.due("all nodes", 470, () -> x.tree(0, 0, 24, k));
            check.due("the last one's end", 24, () -> x.node(469, 2));
            check.dueThrow("none behind it", IndexOutOfBoundsException.class, () -> x.node(470, 0));
        }
        x.tree(0, 0, 24, 0);
        check.due("the deepest", 239, () -> x.node(469, 3));
        check.due("a small one behind the big one", 10, () -> x.tree(0, 23, 24, 0));
        check.dueThrow("has no more", IndexOutOfBoundsException.class, () -> x.node(10, 0));
    }
}
