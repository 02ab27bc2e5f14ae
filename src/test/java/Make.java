/** Objects for the tests, and what one asks of them again and again. */
final class Make {
    static final int NONE = ForestHouse.NONE;
    static final int MANY = 1000000000;
    /** Numbers at which a sum, a product or a shift of ints wraps round. */
    static final int[] WRAPS = {
        Integer.MIN_VALUE, Integer.MIN_VALUE + 1, -1 << 30, -65536, -32, -22, 32, 42, 64, 65536, 1 << 28, 1 << 29,
        1 << 30, Integer.MAX_VALUE - 1, Integer.MAX_VALUE
    };

    private Make() {
    }

    /** Some numbers, and all at which ints wrap round. */
    static int[] and(int... some) {
        int[] all = java.util.Arrays.copyOf(some, some.length + WRAPS.length);
        System.arraycopy(WRAPS, 0, all, some.length, WRAPS.length);
        return all;
    }

    /** A production of one to three items: its number. */
    static int rule(ForestHouse x, int cost, int head, int... items) {
        return x.production(head, items[0], items.length > 1 ? items[1] : NONE, items.length > 2 ? items[2] : NONE,
                cost);
    }

    static void rules(ForestHouse x, int times, int cost, int head, int... items) {
        for (int i = 0; i < times; i++) {
            rule(x, cost, head, items);
        }
    }

    static ForestHouse row(int... tokens) {
        ForestHouse x = new ForestHouse();
        puts(x, tokens);
        return x;
    }

    static void puts(ForestHouse x, int... tokens) {
        for (int token : tokens) {
            x.put(token);
        }
    }

    static void putTimes(ForestHouse x, int times, int token) {
        for (int i = 0; i < times; i++) {
            x.put(token);
        }
    }

    static long cut(ForestHouse x, int n) {
        x.cut(n);
        return 0;
    }

    static long clear(ForestHouse x) {
        x.clear();
        return 0;
    }

    /** The first nodes of the tree as a text: production, begin and end of each, and its depth. */
    static String nodes(ForestHouse x, int size) {
        StringBuilder text = new StringBuilder();
        for (int i = 0; i < size; i++) {
            text.append(i == 0 ? "" : " ").append(x.node(i, 0)).append(':').append(x.node(i, 1));
            text.append('-').append(x.node(i, 2)).append('/').append(x.node(i, 3));
        }
        return text.toString();
    }
}
