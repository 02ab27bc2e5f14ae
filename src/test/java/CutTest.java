/** Promise 5: cut. */
final class CutTest {
    private static long cut(ForestHouse x, int n) {
        x.cut(n);
        return 0;
    }

    public static void main(String[] args) {
        Check check = new Check();
        ForestHouse x = new ForestHouse();
        x.production(0, 0, 0, -1, 1);
        x.production(0, 10, -1, -1, 0);
        x.production(0, 11, -1, -1, 5);
        for (int i = 0; i < 6; i++) {
            x.put(0);
        }
        check.due("count of six", 42, () -> x.count(0, 0, 6));
        for (int wrong : new int[] {-1, 7, 24, 25, Integer.MIN_VALUE, Integer.MAX_VALUE}) {
            check.dueThrow("cut(" + wrong + ") of six", IllegalArgumentException.class, () -> cut(x, wrong));
        }
        check.due("cut to all", 0, () -> cut(x, 6));
        check.due("the row as it was", 42, () -> x.count(0, 0, 6));
        x.tree(0, 0, 6, 0);
        check.due("cut to four", 0, () -> cut(x, 4));
        check.dueThrow("the fifth is gone", IndexOutOfBoundsException.class, () -> x.count(0, 0, 5));
        check.dueThrow("for next too", IndexOutOfBoundsException.class, () -> x.next(5));
        check.due("four are left", 5, () -> x.count(0, 0, 4));
        check.due("cut leaves the tree", 6, () -> x.node(0, 2));
        check.due("put behind the cut", 5, () -> x.put(1));
        check.due("the new row's count", 14, () -> x.count(0, 0, 5));
        check.due("the new row's cost", 9, () -> x.cost(0, 0, 5));
        check.due("another token behind the cut", 6, () -> x.put(2));
        check.due("the new row's count", 0, () -> x.count(0, 0, 6));
        check.due("the new row's next", 0, () -> x.next(6));
        check.due("cut to none", 0, () -> cut(x, 0));
        check.dueThrow("none is left", IndexOutOfBoundsException.class, () -> x.count(0, 0, 1));
        check.dueThrow("cut above none", IllegalArgumentException.class, () -> cut(x, 1));
        check.due("next behind none", 3, () -> x.next(0));
        check.due("the productions are left", 3, () -> x.production(0, 12, -1, -1, 0));
        for (int i = 0; i < 24; i++) {
            x.put(2);
        }
        check.due("cut a full row", 0, () -> cut(x, 23));
        check.due("and it has room", 24, () -> x.put(0));
        check.end();
    }
}
