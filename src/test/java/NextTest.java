/** Promise 10: next. */
final class NextTest {
    private final Check check = new Check();

    public static void main(String[] args) {
        NextTest test = new NextTest();
        test.bounds();
        test.ordinary();
        test.leftRecursion();
        test.withoutEnd();
        test.chain();
        test.onlySymbolNought();
        test.beyondTheRow();
        test.check.end();
    }

    private static ForestHouse with(int... tokens) {
        ForestHouse x = new ForestHouse();
        for (int token : tokens) {
            x.put(token);
        }
        return x;
    }

    private void bounds() {
        ForestHouse x = with(0, 0, 0);
        for (int m : new int[] {-1, 4, 24, 25, Integer.MIN_VALUE, Integer.MAX_VALUE}) {
            check.dueThrow("next(" + m + ") of three", IndexOutOfBoundsException.class, () -> x.next(m));
        }
        for (int m = 0; m <= 3; m++) {
            int at = m;
            check.due("next(" + m + ") without productions", 0, () -> x.next(at));
        }
    }

    private void ordinary() {
        ForestHouse x = with(2, 1, 3, 5);
        x.production(0, 12, 0, 13, 0);
        x.production(0, 1, 11, 14, 0);
        x.production(0, 11, -1, -1, 0);
        x.production(0, 11, 13, 19, 0);
        x.production(1, 19, -1, -1, 0);
        check.due("at the beginning", 1 << 1 | 1 << 2 | 1 << 9, () -> x.next(0));
        check.due("within", 1 << 1 | 1 << 2 | 1 << 9, () -> x.next(1));
        check.due("behind a whole item, and within a longer one", 1 << 3, () -> x.next(2));
        check.due("at the end, and within a longer one", 1024 | 1 << 9, () -> x.next(3));
        check.due("behind what begins nothing", 0, () -> x.next(4));
        x.cut(0);
        x.put(1);
        check.due("whole, and the beginning of more", 1024 | 1 << 3, () -> x.next(1));
        x.put(3);
        check.due("only the beginning of more", 1 << 9, () -> x.next(2));
        x.put(9);
        check.due("whole, and nothing more", 1024, () -> x.next(3));
    }

    private void leftRecursion() {
        ForestHouse x = with(4, 5, 6);
        x.production(0, 1, 15, -1, 0);
        x.production(1, 2, 16, -1, 0);
        x.production(2, 0, 17, -1, 0);
        check.due("none of them ends", 0, () -> x.next(0));
        x.production(2, 14, -1, -1, 0);
        check.due("then", 1 << 4, () -> x.next(0));
        check.due("then", 1 << 6, () -> x.next(1));
        check.due("not this", 0, () -> x.next(2));
        x.cut(1);
        x.put(6);
        check.due("second", 1 << 5, () -> x.next(2));
        x.put(5);
        check.due("third", 1024 | 1 << 7, () -> x.next(3));
        x.put(7);
        check.due("fourth", 1 << 6, () -> x.next(4));
    }

    /** A token is no next one if no row has an end behind it. */
    private void withoutEnd() {
        ForestHouse x = with(1, 1);
        x.production(0, 11, 5, -1, 0);
        check.due("no tree of the second item", 0, () -> x.next(0));
        check.due("nor behind the first", 0, () -> x.next(1));
        x.production(5, 12, 5, -1, 0);
        check.due("nor one with an end", 0, () -> x.next(0));
        x.production(0, 11, 11, 6, 0);
        x.production(6, 7, 13, -1, 0);
        x.production(7, 6, 14, -1, 0);
        check.due("nor of the third", 0, () -> x.next(1));
        check.due("nor of the third", 0, () -> x.next(2));
        x.production(7, 18, -1, -1, 0);
        check.due("now the third", 1 << 1, () -> x.next(0));
        check.due("now the third", 1 << 1, () -> x.next(1));
        check.due("now the third", 1 << 8, () -> x.next(2));
        x.production(5, 19, -1, -1, 0);
        check.due("now the second", 1 << 1 | 1 << 2 | 1 << 9, () -> x.next(1));
    }

    /** Tokens wander up a chain of all symbols, whichever way its productions came. */
    private void chain() {
        for (int way = 0; way < 2; way++) {
            ForestHouse x = with(0);
            x.production(0, 0, 13, -1, 0);
            for (int i = 0; i < 9; i++) {
                int head = way == 0 ? i : 8 - i;
                x.production(head, head + 1, i % 2 == 0 ? -1 : 11, -1, 0);
            }
            check.due("not yet", 0, () -> x.next(0));
            x.production(9, 10, 12, -1, 0);
            check.due("up the chain", 1, () -> x.next(0));
            check.due("up the chain, one further", 1 << 2, () -> x.next(1));
            x.put(2);
            for (int i = 0; i < 4; i++) {
                int m = 2 + i;
                check.due("on the way up", 1 << 1, () -> x.next(m));
                x.put(1);
            }
            check.due("at its top, which is an item too", 1024 | 1 << 3, () -> x.next(6));
        }
    }

    private void onlySymbolNought() {
        ForestHouse x = with(1);
        x.production(1, 11, -1, -1, 0);
        x.production(9, 11, 12, -1, 0);
        check.due("other symbols do not matter", 0, () -> x.next(0));
        check.due("other symbols do not matter", 0, () -> x.next(1));
        x.production(0, 12, 1, -1, 0);
        check.due("but within", 1 << 2, () -> x.next(0));
        check.due("not here", 0, () -> x.next(1));
    }

    /** The rows that begin so may be longer than the row here can be. */
    private void beyondTheRow() {
        ForestHouse x = new ForestHouse();
        x.production(0, 10, 0, 11, 0);
        x.production(0, 12, -1, -1, 0);
        for (int i = 0; i < 24; i++) {
            x.put(0);
        }
        for (int m = 0; m <= 24; m++) {
            int at = m;
            check.due("next(" + m + ")", 1 << 0 | 1 << 2, () -> x.next(at));
        }
        x.cut(12);
        x.put(2);
        for (int i = 0; i < 11; i++) {
            x.put(1);
        }
        check.due("one more is due", 1 << 1, () -> x.next(24));
        check.due("any token, the last too", 0, () -> {
            x.clear();
            return 0;
        });
        for (int token = 0; token < 10; token++) {
            x.production(0, 10 + token, -1, -1, 0);
        }
        check.due("all tokens", 1023, () -> x.next(0));
        x.put(9);
        check.due("whole alone", 1024, () -> x.next(1));
    }
}
