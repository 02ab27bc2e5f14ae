/** Promise 3, sentence by sentence. */
final class Promise03ProductionEdgesTest {
    private static final int NONE = ForestHouse.NONE;
    private static final Class<IllegalArgumentException> ARGUMENT = IllegalArgumentException.class;

    public static void main(String[] args) {
        Section section = new Section("Promise 3", "## Promise 3: production", "## Promise 4");
        section.sentence("A production of items a, b, c (NONE for those behind its last one): its number.",
                Promise03ProductionEdgesTest::aProductionOfItemsABCNoneForThoseBehindItsLastOneItsNumber);
        section.sentence("IllegalArgumentException if one of them, its head or cost isn't as it must be;",
                Promise03ProductionEdgesTest::illegalArgumentExceptionIfOneOfThemItsHeadOrCostIsntAsItMustBe);
        section.sentence("UnsupportedOperationException if there are 24;",
                Promise03ProductionEdgesTest::unsupportedOperationExceptionIfThereAre24);
        section.sentence("IllegalStateException if a symbol would have a way of steps to itself.",
                Promise03ProductionEdgesTest::illegalStateExceptionIfASymbolWouldHaveAWayOfStepsToItself);
        section.end();
    }

    private static void aProductionOfItemsABCNoneForThoseBehindItsLastOneItsNumber(Check check) {
        int[][] items = {{19, NONE, NONE}, {19, 10, NONE}, {19, 10, 15}, {1, NONE, NONE}, {1, 1, NONE}, {1, 1, 1}};
        for (int i = 0; i < items.length; i++) {
            int[] it = items[i];
            int last = it[2] != NONE ? 3 : it[1] != NONE ? 2 : 1;
            ForestHouse x = Make.row(9, 0, 5);
            check.due("the first number", 0, () -> x.production(0, it[0], it[1], it[2], 1));
            check.due("the second number", 1, () -> x.production(1, 19, NONE, NONE, 1));
            check.due("the third number", 2, () -> x.production(1, 10, NONE, NONE, 1));
            check.due("the fourth number", 3, () -> x.production(1, 15, NONE, NONE, 1));
            for (int to = 1; to <= 3; to++) {
                int end = to;
                check.due(last + " items over " + to, to == last ? 1 : 0, () -> x.count(0, 0, end));
            }
        }
        ForestHouse x = new ForestHouse();
        for (int i = 0; i < 24; i++) {
            int number = i;
            check.due("number " + number, number,
                    () -> x.production(number % 10, 19 - number % 10, NONE, NONE, number));
        }
    }

    private static void illegalArgumentExceptionIfOneOfThemItsHeadOrCostIsntAsItMustBe(Check check) {
        for (State state : State.ALL) {
            for (int wrong : new int[] {-2, -1, 10, 19, 20, 32}) {
                state.refuses(check, "head " + wrong, ARGUMENT, x -> x.production(wrong, 10, NONE, NONE, 1));
            }
            for (int wrong : new int[] {-2, 20, 21, 32, 42}) {
                state.refuses(check, "a " + wrong, ARGUMENT, x -> x.production(0, wrong, NONE, NONE, 1));
                state.refuses(check, "b " + wrong, ARGUMENT, x -> x.production(0, 10, wrong, NONE, 1));
                state.refuses(check, "c " + wrong, ARGUMENT, x -> x.production(0, 10, 10, wrong, 1));
                state.refuses(check, "NONE before c " + wrong, ARGUMENT, x -> x.production(0, 10, NONE, wrong, 1));
            }
            for (int wrong : new int[] {-2, -1, 1001, 1002}) {
                state.refuses(check, "cost " + wrong, ARGUMENT, x -> x.production(0, 10, NONE, NONE, wrong));
            }
            noneBeforeItems(check, state);
        }
        wraps(check);
        stillGood(check);
        beforeAnyStep(check);
    }

    /** NONE is only for those behind the last item, and there is a first one at least. */
    private static void noneBeforeItems(Check check, State state) {
        for (int item : new int[] {0, 9, 10, 19}) {
            state.refuses(check, "a NONE, b " + item, ARGUMENT, x -> x.production(0, NONE, item, NONE, 1));
            state.refuses(check, "a and b NONE, c " + item, ARGUMENT, x -> x.production(0, NONE, NONE, item, 1));
            state.refuses(check, "a NONE, b and c " + item, ARGUMENT, x -> x.production(0, NONE, item, item, 1));
            state.refuses(check, "b NONE, c " + item, ARGUMENT, x -> x.production(0, 10, NONE, item, 1));
        }
        state.refuses(check, "all NONE", ARGUMENT, x -> x.production(0, NONE, NONE, NONE, 1));
    }

    private static void wraps(Check check) {
        for (int wrong : Make.WRAPS) {
            State.ORDINARY.refuses(check, "head " + wrong, ARGUMENT, x -> x.production(wrong, 10, NONE, NONE, 1));
            State.ORDINARY.refuses(check, "a " + wrong, ARGUMENT, x -> x.production(0, wrong, NONE, NONE, 1));
            State.ORDINARY.refuses(check, "b " + wrong, ARGUMENT, x -> x.production(0, 10, wrong, NONE, 1));
            State.ORDINARY.refuses(check, "c " + wrong, ARGUMENT, x -> x.production(0, 10, 10, wrong, 1));
            if (wrong < 0 || wrong > 1000) {
                State.ORDINARY.refuses(check, "cost " + wrong, ARGUMENT, x -> x.production(0, 10, NONE, NONE, wrong));
            }
        }
    }

    /** The last ones that are as they must be. */
    private static void stillGood(Check check) {
        for (int head : new int[] {0, 9}) {
            for (int item : new int[] {0, 9, 10, 19}) {
                for (int cost : new int[] {0, 1, 999, 1000}) {
                    ForestHouse x = new ForestHouse();
                    check.due("three of " + item, 0, () -> x.production(head, item, item, item, cost));
                    check.due("two of " + item, 1, () -> x.production(head, item, item, NONE, cost));
                    if (item != head) {
                        check.due("one of " + item, 2, () -> x.production(head, item, NONE, NONE, cost));
                    }
                }
            }
        }
    }

    private static void beforeAnyStep(Check check) {
        State.NEW.refuses(check, "a step to itself for 1001", ARGUMENT, x -> x.production(4, 4, NONE, NONE, 1001));
        State.NEW.refuses(check, "a step to itself and c", ARGUMENT, x -> x.production(4, 4, NONE, 4, 0));
        State.ORDINARY.refuses(check, "a step back for -1", ARGUMENT, x -> x.production(1, 0, NONE, NONE, -1));
    }

    private static void unsupportedOperationExceptionIfThereAre24(Check check) {
        Class<UnsupportedOperationException> want = UnsupportedOperationException.class;
        for (State state : State.WITHOUT_ROOM) {
            state.refuses(check, "a token more", want, x -> x.production(0, 10, NONE, NONE, 0));
            state.refuses(check, "the same again", want, x -> x.production(9, 10, NONE, NONE, 1000));
            state.refuses(check, "three items more", want, x -> x.production(9, 19, 19, 19, 0));
            state.refuses(check, "a step more", want, x -> x.production(0, 2, NONE, NONE, 0));
            state.refuses(check, "a step to itself", want, x -> x.production(0, 0, NONE, NONE, 0));
            state.refuses(check, "a step back", want, x -> x.production(9, 0, NONE, NONE, 0));
        }
        ForestHouse x = Make.row(0);
        Make.rules(x, 22, 1, 0, 10);
        check.due("the 23rd", 22, () -> Make.rule(x, 1, 0, 10));
        check.dueThrow("one in a circle with 23", IllegalStateException.class, () -> Make.rule(x, 1, 0, 0));
        check.due("the 24th", 23, () -> Make.rule(x, 0, 1, 0));
        check.dueThrow("the 25th", want, () -> Make.rule(x, 1, 0, 10));
        check.due("the 24th is there", 23, () -> x.count(1, 0, 1));
        x.clear();
        check.due("room again", 0, () -> Make.rule(x, 1, 0, 10));
    }

    private static void illegalStateExceptionIfASymbolWouldHaveAWayOfStepsToItself(Check check) {
        Class<IllegalStateException> want = IllegalStateException.class;
        for (int s = 0; s < 10; s++) {
            int symbol = s;
            State.NEW.refuses(check, "symbol " + s + " to itself", want, x -> Make.rule(x, 0, symbol, symbol));
            State.CLEARED.refuses(check, "symbol " + s + " to itself", want, x -> Make.rule(x, 0, symbol, symbol));
        }
        for (State state : new State[] {State.ORDINARY, State.ASKED, State.CUT}) {
            state.refuses(check, "back by one", want, x -> Make.rule(x, 0, 1, 0));
            state.refuses(check, "back by two", want, x -> Make.rule(x, 0, 1, 2));
            state.refuses(check, "back by the other one", want, x -> Make.rule(x, 0, 0, 2));
        }
        chainOfTen(check);
        twoWays(check);
        refusedStepsAreNone(check);
    }

    private static void chainOfTen(Check check) {
        ForestHouse x = new ForestHouse();
        for (int s = 0; s < 9; s++) {
            Make.rule(x, 0, s, s + 1);
        }
        for (int h = 0; h < 10; h++) {
            for (int t = 0; t <= h; t++) {
                int head = h;
                int target = t;
                check.dueThrow("up from " + h + " to " + t, IllegalStateException.class,
                        () -> Make.rule(x, 0, head, target));
            }
        }
        check.due("down over all", 9, () -> Make.rule(x, 0, 0, 9));
        check.due("down again", 10, () -> Make.rule(x, 0, 0, 1));
        check.due("up with an item more", 11, () -> Make.rule(x, 0, 9, 0, 0));
    }

    /** Two ways to the same symbol are no circle. */
    private static void twoWays(Check check) {
        ForestHouse x = new ForestHouse();
        check.due("one way", 0, () -> Make.rule(x, 0, 0, 1));
        check.due("on", 1, () -> Make.rule(x, 0, 1, 3));
        check.due("another way", 2, () -> Make.rule(x, 0, 0, 2));
        check.due("to the same", 3, () -> Make.rule(x, 0, 2, 3));
        check.due("across", 4, () -> Make.rule(x, 0, 1, 2));
        check.dueThrow("back across", IllegalStateException.class, () -> Make.rule(x, 0, 2, 1));
        check.dueThrow("back from the end", IllegalStateException.class, () -> Make.rule(x, 0, 3, 0));
        check.due("on from the end", 5, () -> Make.rule(x, 0, 3, 4));
        check.dueThrow("back from there", IllegalStateException.class, () -> Make.rule(x, 0, 4, 1));
        x.put(0);
        Make.rule(x, 0, 4, 10);
        check.due("each way is a tree", 3, () -> x.count(0, 0, 1));
    }

    private static void refusedStepsAreNone(Check check) {
        ForestHouse x = new ForestHouse();
        Make.rule(x, 0, 0, 1);
        check.dueThrow("refused", IllegalStateException.class, () -> Make.rule(x, 0, 1, 0));
        check.dueThrow("refused for its cost", ARGUMENT, () -> Make.rule(x, -1, 2, 0));
        check.due("it is no way: from 1 on", 1, () -> Make.rule(x, 0, 1, 2));
        check.due("and to 0", 2, () -> Make.rule(x, 0, 3, 0));
        check.dueThrow("but this closes one", IllegalStateException.class, () -> Make.rule(x, 0, 2, 3));
        x.clear();
        check.due("behind clear no step is left", 0, () -> Make.rule(x, 0, 1, 0));
        check.dueThrow("but the new one", IllegalStateException.class, () -> Make.rule(x, 0, 0, 1));
    }
}
