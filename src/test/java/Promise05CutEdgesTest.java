/** Promise 5, sentence by sentence. */
final class Promise05CutEdgesTest {
    public static void main(String[] args) {
        Section section = new Section("Promise 5", "## Promise 5: cut", "## Promise 6");
        section.sentence("The row has its first n tokens.", Promise05CutEdgesTest::theRowHasItsFirstNTokens);
        section.sentence("IllegalArgumentException if it has fewer, or n is below 0.",
                Promise05CutEdgesTest::illegalArgumentExceptionIfItHasFewerOrNIsBelow0);
        section.end();
    }

    private static void theRowHasItsFirstNTokens(Check check) {
        for (int length : new int[] {0, 1, 2, 23, 24}) {
            for (int n = 0; n <= length; n++) {
                cut(check, length, n, false);
                cut(check, length, n, true);
            }
        }
        theTreeStays(check);
    }

    /** The first n are there, those behind are not, and others can be put in their place. */
    private static void cut(Check check, int length, int n, boolean asked) {
        ForestHouse x = new ForestHouse();
        Make.rule(x, 1, 0, 0, 0);
        Make.rule(x, 1, 0, 10);
        Make.rule(x, 1, 1, 11);
        Make.rule(x, 1, 0, 1);
        for (int i = 0; i < length; i++) {
            x.put(i % 2);
        }
        if (asked && length > 0) {
            x.count(0, 0, length);
            x.next(length);
        }
        String what = "cut(" + n + ") of " + length;
        check.due(what, 0, () -> Make.cut(x, n));
        check.dueThrow(what + ", behind the last", IndexOutOfBoundsException.class, () -> x.count(0, n, n + 1));
        check.dueThrow(what + ", next behind the last", IndexOutOfBoundsException.class, () -> x.next(n + 1));
        for (int place = 0; place < n; place++) {
            int at = place;
            check.due(what + ", token " + at, at % 2, () -> x.count(1, at, at + 1));
        }
        check.due(what + ", next", n == 0 ? 3 : 1027, () -> x.next(n));
        if (n < 24) {
            check.due(what + ", another token", n + 1, () -> x.put(2));
            check.due(what + ", it is another one", 0, () -> x.count(0, n, n + 1));
            check.due(what + ", in the whole row too", 0, () -> x.count(0, 0, n + 1));
            check.due(what + ", and for next", 0, () -> x.next(n + 1));
            check.due(what + ", back again", 0, () -> Make.cut(x, n));
            check.due(what + ", the token that was there", n + 1, () -> x.put(n % 2));
            check.due(what + ", next behind it", 1027, () -> x.next(n + 1));
        }
    }

    private static void theTreeStays(Check check) {
        for (int n : new int[] {0, 12, 23, 24}) {
            ForestHouse x = State.FULL.made();
            x.cut(n);
            check.due("the tree's first node behind cut(" + n + ")", 24, () -> x.node(0, 2));
            check.due("the tree's last node behind cut(" + n + ")", 23, () -> x.node(469, 1));
            check.dueThrow("and no other", IndexOutOfBoundsException.class, () -> x.node(470, 1));
            check.dueThrow("the productions stay", UnsupportedOperationException.class, () -> Make.rule(x, 0, 0, 10));
        }
    }

    private static void illegalArgumentExceptionIfItHasFewerOrNIsBelow0(Check check) {
        for (State state : State.ALL) {
            for (int wrong : new int[] {-2, -1, 25, 26}) {
                refused(check, state, wrong);
            }
        }
        refused(check, State.NEW, 1);
        refused(check, State.CLEARED, 1);
        refused(check, State.CLEARED, 24);
        refused(check, State.ORDINARY, 7);
        refused(check, State.ORDINARY, 24);
        refused(check, State.ASKED, 7);
        refused(check, State.CUT, 4);
        refused(check, State.CUT, 6);
        for (int wrong : Make.WRAPS) {
            refused(check, State.ASKED, wrong);
        }
        ForestHouse x = Make.row(1, 2);
        check.dueThrow("one more than there are", IllegalArgumentException.class, () -> Make.cut(x, 3));
        check.due("all", 0, () -> Make.cut(x, 2));
        check.due("one fewer", 0, () -> Make.cut(x, 1));
        check.dueThrow("those cut off", IllegalArgumentException.class, () -> Make.cut(x, 2));
        check.due("none", 0, () -> Make.cut(x, 0));
        check.due("none of none", 0, () -> Make.cut(x, 0));
        check.dueThrow("one of none", IllegalArgumentException.class, () -> Make.cut(x, 1));
    }

    private static void refused(Check check, State state, int n) {
        state.refuses(check, "cut(" + n + ")", IllegalArgumentException.class, x -> Make.cut(x, n));
    }
}
