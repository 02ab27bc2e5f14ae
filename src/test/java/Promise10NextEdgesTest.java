/** Promise 10, sentence by sentence. */
final class Promise10NextEdgesTest {
    public static void main(String[] args) {
        Section section = new Section("Promise 10", "## Promise 10: next", "## Not promised");
        section.sentence("The tokens that can come NEXT behind the first m tokens, as bits;",
                Promise10NextEdgesTest::theTokensThatCanComeNextBehindTheFirstMTokensAsBits);
        section.sentence("and 1024 if these come of symbol 0 themselves.",
                Promise10NextEdgesTest::and1024IfTheseComeOfSymbol0Themselves);
        section.sentence("IndexOutOfBoundsException if the row has fewer, or m is below 0.",
                Promise10NextEdgesTest::indexOutOfBoundsExceptionIfTheRowHasFewerOrMIsBelow0);
        section.end();
    }

    private static void theTokensThatCanComeNextBehindTheFirstMTokensAsBits(Check check) {
        ForestHouse x = new ForestHouse();
        check.due("none", 0, () -> x.next(0));
        int bits = 0;
        for (int token = 9; token >= 0; token--) {
            Make.rule(x, 0, 0, 10 + token);
            bits |= 1 << token;
            int due = bits;
            check.due("down to token " + token, due, () -> x.next(0));
        }
        check.due("all of them", 1023, () -> x.next(0));
        Make.rule(x, 0, 0, 0, 0);
        for (int m = 1; m <= 24; m++) {
            int to = m;
            x.put(m % 10);
            check.due("all of them, and the row itself", 2047, () -> x.next(to));
        }
        check.due("all of them, at the beginning of a full row", 1023, () -> x.next(0));
        onlyTheFirstM(check);
        firstsOfAllSymbols(check);
        severalEnds(check);
        laterProductions(check);
    }

    /** What stands behind the first m tokens doesn't matter. */
    private static void onlyTheFirstM(Check check) {
        ForestHouse x = Make.row(0, 1, 2, 9, 9);
        Make.rule(x, 0, 0, 10, 11, 1);
        Make.rule(x, 0, 1, 12, 13);
        Make.rule(x, 0, 1, 12, 12, 14);
        int[] due = {1, 1 << 1, 1 << 2, 1 << 2 | 1 << 3, 0, 0};
        for (int m = 5; m >= 0; m--) {
            int to = m;
            check.due("behind " + m, due[m], () -> x.next(to));
        }
        x.cut(3);
        check.due("behind three, with none behind them", 1 << 2 | 1 << 3, () -> x.next(3));
    }

    /** A chain of first items through all symbols, from either side, and round in a circle. */
    private static void firstsOfAllSymbols(Check check) {
        for (int way = 0; way < 2; way++) {
            ForestHouse x = Make.row(9);
            for (int i = 0; i < 9; i++) {
                int head = way == 0 ? i : 8 - i;
                Make.rule(x, 0, head, head + 1, 10 + head);
            }
            Make.rule(x, 0, 9, 0, 10);
            check.due("no end yet", 0, () -> x.next(0));
            Make.rule(x, 0, 9, 19);
            check.due("the first of all", 1 << 9, () -> x.next(0));
            check.due("what comes behind it", 1 << 8, () -> x.next(1));
            for (int token = 8; token >= 0; token--) {
                x.put(token);
                int m = 10 - token;
                int due = token == 0 ? 1025 : 1 << token - 1;
                check.due("on the way up, behind " + m, due, () -> x.next(m));
            }
        }
    }

    /** The item before can end at several places, with other tokens behind each; the third and the second. */
    private static void severalEnds(Check check) {
        for (int before = 0; before < 2; before++) {
            ForestHouse x = new ForestHouse();
            Make.putTimes(x, before, 5);
            Make.putTimes(x, 2, 0);
            Make.rule(x, 0, 0, before == 0 ? new int[] {1, 2} : new int[] {15, 1, 2});
            Make.rule(x, 0, 1, 10);
            Make.rule(x, 0, 1, 10, 10);
            Make.rule(x, 0, 1, 10, 10, 18);
            Make.rule(x, 0, 2, 10, 11);
            Make.rule(x, 0, 2, 12);
            int m = 2 + before;
            check.due("behind one, two and a part of three", 1 | 1 << 1 | 1 << 2 | 1 << 8, () -> x.next(m));
            check.due("behind one, and a part of two", 1 | 1 << 2, () -> x.next(m - 1));
        }
    }

    private static void laterProductions(Check check) {
        ForestHouse x = Make.row(0, 0);
        Make.rule(x, 0, 0, 10, 0);
        check.due("not yet", 0, () -> x.next(2));
        Make.rule(x, 0, 0, 11);
        check.due("then", 3, () -> x.next(2));
        check.due("then, before", 3, () -> x.next(0));
        Make.rule(x, 0, 0, 19);
        check.due("and more", 3 | 1 << 9, () -> x.next(1));
    }

    private static void and1024IfTheseComeOfSymbol0Themselves(Check check) {
        ForestHouse x = new ForestHouse();
        Make.rule(x, 0, 0, 10);
        check.due("none never come", 1, () -> x.next(0));
        x.put(0);
        check.due("one, and nothing behind", 1024, () -> x.next(1));
        x.put(0);
        check.due("one too many", 0, () -> x.next(2));
        check.due("the first one still", 1024, () -> x.next(1));
        Make.rule(x, 0, 0, 10, 10);
        check.due("two, and nothing behind", 1024, () -> x.next(2));
        check.due("one, or two", 1025, () -> x.next(1));
        onlySymbol0(check);
        atTheEndOfAFullRow(check);
        ForestHouse many = State.FULL.made();
        check.due("in many ways", 1025, () -> many.next(24));
        check.due("in many ways, but none", 1, () -> many.next(0));
    }

    private static void onlySymbol0(Check check) {
        for (int s = 1; s < 10; s++) {
            int symbol = s;
            ForestHouse x = Make.row(0);
            Make.rule(x, 0, symbol, 10);
            check.due("of symbol " + s, 0, () -> x.next(1));
            Make.rule(x, 0, 0, symbol);
            check.due("of symbol 0 by a step to " + s, 1024, () -> x.next(1));
        }
    }

    /** A row of 24 that comes of symbol 0, with nothing behind; and one that does not yet. */
    private static void atTheEndOfAFullRow(Check check) {
        ForestHouse x = new ForestHouse();
        Make.rule(x, 0, 0, 1, 1, 1);
        Make.rule(x, 0, 1, 2, 2);
        Make.rule(x, 0, 2, 3, 3);
        Make.rule(x, 0, 3, 10, 10);
        Make.putTimes(x, 24, 0);
        check.due("23 of 24", 1, () -> x.next(23));
        check.due("24 of 24", 1024, () -> x.next(24));
        Make.rule(x, 0, 3, 10, 10, 19);
        check.due("24 of 24, or one more", 1024 | 1 << 9, () -> x.next(24));
        check.due("22 of 24, or one more", 1 | 1 << 9, () -> x.next(22));
    }

    private static void indexOutOfBoundsExceptionIfTheRowHasFewerOrMIsBelow0(Check check) {
        for (State state : State.ALL) {
            for (int m : Make.and(-2, -1, 25, 26)) {
                if (m < 0 || m > 24) {
                    refused(check, state, m);
                }
            }
        }
        refused(check, State.NEW, 1);
        refused(check, State.CLEARED, 1);
        refused(check, State.CLEARED, 24);
        refused(check, State.ORDINARY, 7);
        refused(check, State.ASKED, 7);
        refused(check, State.CUT, 4);
        refused(check, State.CUT, 6);
        for (int length = 0; length <= 24; length++) {
            ForestHouse x = new ForestHouse();
            Make.putTimes(x, length, 0);
            int last = length;
            check.due("all of " + length, 0, () -> x.next(last));
            check.dueThrow("one more than " + length, IndexOutOfBoundsException.class, () -> x.next(last + 1));
        }
    }

    private static void refused(Check check, State state, int m) {
        state.refuses(check, "next(" + m + ")", IndexOutOfBoundsException.class, x -> x.next(m));
    }
}
