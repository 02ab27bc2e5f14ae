/** Symbols and parts that are there, or aren't: the same for count, cost and tree. */
final class Parts {
    /** A call that is given a symbol and a part. */
    interface Call {
        long answer(ForestHouse x, int symbol, int from, int to);
    }

    private Parts() {
    }

    /** IndexOutOfBoundsException if there is no such symbol or part, and then nothing has changed. */
    static void refused(Check check, String name, Call call) {
        for (State state : State.ALL) {
            for (int symbol : new int[] {-2, -1, 10, 11, 19, 20}) {
                refused(check, state, name, call, symbol, 0, 1);
            }
            for (int[] part : new int[][] {{-1, 0}, {-1, 1}, {0, -1}, {0, 0}, {1, 0}, {24, 24}, {0, 25}, {24, 25}}) {
                refused(check, state, name, call, 0, part[0], part[1]);
            }
        }
        for (State state : new State[] {State.NEW, State.CLEARED}) {
            refused(check, state, name, call, 0, 0, 1);
        }
        for (int[] part : new int[][] {{0, 7}, {5, 7}, {6, 7}, {6, 6}, {5, 5}, {5, 4}, {6, 0}, {-5, 6}}) {
            refused(check, State.ORDINARY, name, call, 0, part[0], part[1]);
            refused(check, State.ASKED, name, call, 0, part[0], part[1]);
        }
        for (int[] part : new int[][] {{0, 4}, {3, 4}, {2, 6}, {3, 3}}) {
            refused(check, State.CUT, name, call, 0, part[0], part[1]);
        }
        for (int wrap : Make.WRAPS) {
            refused(check, State.ASKED, name, call, wrap, 0, 1);
            refused(check, State.ASKED, name, call, 0, wrap, 1);
            refused(check, State.ASKED, name, call, 0, 0, wrap);
            refused(check, State.ASKED, name, call, 0, wrap, wrap);
        }
        refused(check, State.ASKED, name, call, 0, Integer.MIN_VALUE, Integer.MAX_VALUE);
        refused(check, State.ASKED, name, call, 0, Integer.MAX_VALUE, Integer.MIN_VALUE);
        refused(check, State.ASKED, name, call, 0, Integer.MAX_VALUE - 1, Integer.MAX_VALUE);
    }

    private static void refused(Check check, State state, String name, Call call, int symbol, int from, int to) {
        state.refuses(check, name + " of " + symbol + " from " + from + " to " + to, IndexOutOfBoundsException.class,
                x -> call.answer(x, symbol, from, to));
    }

    /** All parts of a row of each length, and no others; the answer is the part's length. */
    static void there(Check check, String name, Call call) {
        for (int length : new int[] {1, 2, 5, 24}) {
            for (int from = -1; from <= length + 1; from++) {
                ForestHouse x = new ForestHouse();
                for (int symbol = 0; symbol < 9; symbol++) {
                    Make.rule(x, 0, symbol, symbol + 1);
                }
                Make.rule(x, 1, 9, 10, 9);
                Make.rule(x, 1, 9, 10);
                Make.putTimes(x, length, 0);
                for (int to = -1; to <= length + 1; to++) {
                    int symbol = Math.floorMod(from + to, 10);
                    int begin = from;
                    int end = to;
                    String what = name + " of " + symbol + " from " + from + " to " + to + " of " + length;
                    if (from >= 0 && from < to && to <= length) {
                        check.due(what, to - from, () -> call.answer(x, symbol, begin, end));
                    } else {
                        check.dueThrow(what, IndexOutOfBoundsException.class,
                                () -> call.answer(x, symbol, begin, end));
                    }
                }
            }
        }
    }
}
