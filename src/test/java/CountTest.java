/** Promise 6: count, and the bounds of parts and symbols. */
final class CountTest {
    private final Check check = new Check();

    public static void main(String[] args) {
        CountTest test = new CountTest();
        test.bounds();
        test.ordinary();
        test.edgeOfMany();
        test.manyTimesMany();
        test.noneTimesMany();
        test.check.end();
    }

    private void bounds() {
        int[] edges = {Integer.MIN_VALUE, -1, 0, 1, 2, 4, 5, 6, 9, 10, 24, 25, Integer.MAX_VALUE};
        for (int symbol : edges) {
            ForestHouse x = Make.row(0, 0, 0, 0, 0);
            for (int from : edges) {
                for (int to : edges) {
                    boolean good = symbol >= 0 && symbol <= 9 && from >= 0 && from < to && to <= 5;
                    String part = "(" + symbol + ", " + from + ", " + to + ")";
                    if (good) {
                        check.due("count" + part, 0, () -> x.count(symbol, from, to));
                    } else {
                        check.dueThrow("count" + part, IndexOutOfBoundsException.class,
                                () -> x.count(symbol, from, to));
                    }
                }
            }
        }
    }

    private void ordinary() {
        ForestHouse x = new ForestHouse();
        x.production(0, 0, 10, 0, 0);
        x.production(0, 11, -1, -1, 0);
        x.production(0, 11, -1, -1, 0);
        x.production(2, 0, -1, -1, 0);
        x.production(1, 2, -1, -1, 0);
        x.production(1, 0, -1, -1, 0);
        for (int i = 0; i < 7; i++) {
            x.put(i % 2 == 0 ? 1 : 0);
        }
        check.due("like productions make trees of their own", 2, () -> x.count(0, 0, 1));
        check.due("two operands", 4, () -> x.count(0, 0, 3));
        check.due("three operands", 16, () -> x.count(0, 2, 7));
        check.due("four operands", 80, () -> x.count(0, 0, 7));
        check.due("a step", 80, () -> x.count(2, 0, 7));
        check.due("a step, and two of them", 160, () -> x.count(1, 0, 7));
        check.due("no operand", 0, () -> x.count(0, 1, 2));
        check.due("half of it", 0, () -> x.count(0, 0, 2));
        check.due("a symbol without productions", 0, () -> x.count(5, 0, 7));
    }

    private void edgeOfMany() {
        ForestHouse x = new ForestHouse();
        for (int i = 0; i < 9; i++) {
            x.production(1, 10, -1, -1, 0);
        }
        x.production(2, 1, -1, -1, 0);
        x.production(2, 10, -1, -1, 0);
        x.production(3, 2, 3, -1, 0);
        x.production(3, 2, -1, -1, 0);
        x.production(0, 10, 0, -1, 0);
        x.production(0, 1, 3, -1, 0);
        x.production(0, 1, -1, -1, 0);
        for (int i = 0; i < 10; i++) {
            x.put(0);
        }
        // A tree of symbol 0 is a number of so many digits that isn't nought.
        check.due("eight digits", 99999999, () -> x.count(0, 0, 8));
        check.due("nine digits: one less than many", 999999999, () -> x.count(0, 0, 9));
        check.due("ten digits", 1000000000, () -> x.count(0, 0, 10));
        x.production(0, 10, -1, -1, 0);
        check.due("eight digits, or nought", 100000000, () -> x.count(0, 0, 8));
        check.due("nine digits, or nought: just as many", 1000000000, () -> x.count(0, 0, 9));

        ForestHouse y = new ForestHouse();
        for (int i = 0; i < 9; i++) {
            y.production(0, 10, -1, -1, 0);
        }
        y.production(1, 0, 0, 0, 0);
        y.production(4, 1, 1, 1, 0);
        y.production(4, 1, 1, 1, 0);
        for (int i = 0; i < 9; i++) {
            y.put(0);
        }
        check.due("a sum of fewer", 774840978, () -> y.count(4, 0, 9));
        y.production(4, 1, 1, 1, 0);
        check.due("a sum of more", 1000000000, () -> y.count(4, 0, 9));
    }

    private void manyTimesMany() {
        ForestHouse x = new ForestHouse();
        x.production(0, 0, 0, 0, 1);
        x.production(0, 0, 0, -1, 1);
        for (int i = 0; i < 22; i++) {
            x.production(0, 10, -1, -1, 1);
        }
        for (int i = 0; i < 24; i++) {
            x.put(0);
        }
        for (int to = 8; to <= 24; to++) {
            int end = to;
            check.due("many of " + to, 1000000000, () -> x.count(0, 0, end));
        }
        check.due("of one", 22, () -> x.count(0, 0, 1));
        check.due("of two", 484, () -> x.count(0, 0, 2));
        check.due("of three", 31944, () -> x.count(0, 0, 3));
    }

    /** Many trees before and behind one item that has none are no tree. */
    private void noneTimesMany() {
        ForestHouse x = new ForestHouse();
        x.production(0, 0, 0, -1, 1);
        for (int i = 0; i < 20; i++) {
            x.production(0, 10, -1, -1, 1);
        }
        x.production(1, 0, 2, 0, 1);
        x.production(1, 0, 0, 2, 1);
        x.production(1, 2, 0, 0, 1);
        for (int i = 0; i < 24; i++) {
            x.put(0);
        }
        check.due("none", 0, () -> x.count(1, 0, 24));
        check.due("none of none", 0, () -> x.count(2, 0, 24));
    }
}
