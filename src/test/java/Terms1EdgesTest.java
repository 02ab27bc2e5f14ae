/** The document's Terms, 1, sentence by sentence. */
final class Terms1EdgesTest {
    private static final int NONE = ForestHouse.NONE;

    public static void main(String[] args) {
        Section section = new Section("Terms 1", "\n1. ", "\n2. ");
        section.sentence("SYMBOLS are 0 .. 9, TOKENS 0 .. 9.", Terms1EdgesTest::symbolsAre0To9Tokens0To9);
        section.sentence("ITEMS: a symbol's number, or 10 more than a token's.",
                Terms1EdgesTest::itemsASymbolsNumberOr10MoreThanATokens);
        section.sentence("A PRODUCTION has a symbol, its HEAD, one to three items and a COST, 0 .. 1000;",
                Terms1EdgesTest::aProductionHasOneToThreeItemsAndACost0To1000);
        section.sentence("productions are numbered from 0 as they come, at most 24.",
                Terms1EdgesTest::productionsAreNumberedFrom0AsTheyComeAtMost24);
        section.sentence("A production of one item that is a symbol is a STEP from its head to this;",
                Terms1EdgesTest::aProductionOfOneItemThatIsASymbolIsAStep);
        section.sentence("no symbol has a way of one or more steps to itself.",
                Terms1EdgesTest::noSymbolHasAWayOfOneOrMoreStepsToItself);
        section.sentence("The ROW has up to 24 tokens;", Terms1EdgesTest::theRowHasUpTo24Tokens);
        section.sentence("a PART of it, from a place on, to another one, has those between (never none).",
                Terms1EdgesTest::aPartHasThoseBetweenNeverNone);
        section.end();
    }

    private static void symbolsAre0To9Tokens0To9(Check check) {
        for (int i = 0; i < 10; i++) {
            int s = i;
            ForestHouse x = new ForestHouse();
            check.due("head " + s, 0, () -> Make.rule(x, 0, s, 10 + s));
            check.due("token " + s, 1, () -> x.put(s));
            for (int other = 0; other < 10; other++) {
                int o = other;
                check.due("symbol " + o + " of token " + s, o == s ? 1 : 0, () -> x.count(o, 0, 1));
            }
        }
        for (int wrong : Make.and(-2, -1, 10, 11, 19, 20)) {
            State.ORDINARY.refuses(check, "head " + wrong, IllegalArgumentException.class,
                    x -> Make.rule(x, 0, wrong, 10));
            State.ORDINARY.refuses(check, "symbol " + wrong, IndexOutOfBoundsException.class,
                    x -> x.count(wrong, 0, 1));
            State.ORDINARY.refuses(check, "token " + wrong, IllegalArgumentException.class, x -> x.put(wrong));
        }
    }

    private static void itemsASymbolsNumberOr10MoreThanATokens(Check check) {
        for (int i = 0; i < 10; i++) {
            int token = i;
            ForestHouse x = Make.row(token, (token + 1) % 10, (token + 9) % 10);
            Make.rule(x, 0, 0, 10 + token, 10 + (token + 1) % 10, 10 + (token + 9) % 10);
            check.due("items of tokens about " + token, 1, () -> x.count(0, 0, 3));
            check.due("next of item " + (10 + token), 1 << token, () -> x.next(0));
            ForestHouse y = Make.row(0, 0, 0);
            int head = (token + 5) % 10;
            Make.rule(y, 0, token, 10);
            Make.rule(y, 0, head, token, token, token);
            check.due("items of symbol " + token, 1, () -> y.count(head, 0, 3));
        }
        ForestHouse x = Make.row(0);
        check.due("item 9", 0, () -> Make.rule(x, 0, 0, 9));
        check.due("is symbol 9, no token", 0, () -> x.next(0));
        check.due("item 10", 1, () -> Make.rule(x, 0, 9, 10));
        check.due("is token 0, no symbol", 1, () -> x.next(0));
        check.due("item 19", 2, () -> Make.rule(x, 0, 9, 19));
        check.due("is token 9", 1 | 1 << 9, () -> x.next(0));
        for (int wrong : Make.and(-2, 20, 21)) {
            State.ORDINARY.refuses(check, "first item " + wrong, IllegalArgumentException.class,
                    h -> h.production(0, wrong, 10, 10, 0));
            State.ORDINARY.refuses(check, "second item " + wrong, IllegalArgumentException.class,
                    h -> h.production(0, 10, wrong, 10, 0));
            State.ORDINARY.refuses(check, "third item " + wrong, IllegalArgumentException.class,
                    h -> h.production(0, 10, 10, wrong, 0));
        }
    }

    private static void aProductionHasOneToThreeItemsAndACost0To1000(Check check) {
        ForestHouse x = Make.row(0, 0, 0);
        State.NEW.refuses(check, "no items", IllegalArgumentException.class,
                h -> h.production(0, NONE, NONE, NONE, 0));
        check.due("one item", 0, () -> Make.rule(x, 0, 1, 10));
        check.due("two items", 1, () -> Make.rule(x, 1000, 2, 10, 10));
        check.due("three items", 2, () -> Make.rule(x, 1, 3, 10, 10, 10));
        for (int i = 1; i <= 3; i++) {
            for (int to = 1; to <= 3; to++) {
                int items = i;
                int end = to;
                check.due(items + " items over " + end, items == end ? 1 : 0, () -> x.count(items, 0, end));
            }
        }
        check.due("cost 0", 0, () -> x.cost(1, 0, 1));
        check.due("cost 1000", 1000, () -> x.cost(2, 0, 2));
        check.due("cost 1", 1, () -> x.cost(3, 0, 3));
        for (int wrong : new int[] {-1, 1001, 65536, Integer.MIN_VALUE, Integer.MAX_VALUE}) {
            State.ORDINARY.refuses(check, "cost " + wrong, IllegalArgumentException.class,
                    h -> Make.rule(h, wrong, 0, 10));
        }
    }

    private static void productionsAreNumberedFrom0AsTheyComeAtMost24(Check check) {
        ForestHouse x = Make.row(0);
        for (int i = 0; i < 24; i++) {
            int number = i;
            check.dueThrow("a refused one takes no number", IllegalArgumentException.class,
                    () -> Make.rule(x, 1001, 0, 10));
            check.due("one more", number, () -> Make.rule(x, 1000 - number, 0, 10));
            check.due("the cheapest is the last one", 1, () -> x.tree(0, 0, 1, NONE));
            check.due("and has this number", number, () -> x.node(0, 0));
        }
        check.dueThrow("a 25th", UnsupportedOperationException.class, () -> Make.rule(x, 0, 0, 10));
        check.due("there are 24", 24, () -> x.count(0, 0, 1));
    }

    private static void aProductionOfOneItemThatIsASymbolIsAStep(Check check) {
        for (int symbol = 0; symbol < 10; symbol++) {
            int s = symbol;
            int t = (symbol + 1) % 10;
            ForestHouse x = new ForestHouse();
            check.due("a token of the head's number", 0, () -> Make.rule(x, 0, s, 10 + s));
            check.due("itself twice", 1, () -> Make.rule(x, 0, s, s, s));
            check.due("itself thrice", 2, () -> Make.rule(x, 0, s, s, s, s));
            check.due("itself before a token", 3, () -> Make.rule(x, 0, s, s, 10));
            check.due("itself behind a token", 4, () -> Make.rule(x, 0, s, 10, s));
            check.due("a step", 5, () -> Make.rule(x, 0, s, t));
            check.dueThrow("its way back", IllegalStateException.class, () -> Make.rule(x, 0, t, s));
            check.due("is none with two items", 6, () -> Make.rule(x, 0, t, s, s));
            check.due("is none with a token's item", 7, () -> Make.rule(x, 0, t, 10 + s));
        }
    }

    private static void noSymbolHasAWayOfOneOrMoreStepsToItself(Check check) {
        for (int length = 1; length <= 10; length++) {
            for (int turn = 0; turn < 10; turn++) {
                circle(check, length, turn, false);
                circle(check, length, turn, true);
            }
        }
    }

    /** A circle of so many steps: they come from any of them on, forth or back, and the last is refused. */
    private static void circle(Check check, int length, int turn, boolean back) {
        ForestHouse x = new ForestHouse();
        for (int i = 0; i < length; i++) {
            int number = i;
            int head = ((back ? length - 1 - i : i) + turn) % length;
            int target = (head + 1) % length;
            String step = "step " + (i + 1) + " of " + length + " in a circle";
            if (i < length - 1) {
                check.due(step, number, () -> Make.rule(x, 0, head, target));
            } else {
                check.dueThrow(step, IllegalStateException.class, () -> Make.rule(x, 0, head, target));
                check.due("the number is still to be had", number, () -> Make.rule(x, 0, head, target, target));
            }
        }
    }

    private static void theRowHasUpTo24Tokens(Check check) {
        ForestHouse x = new ForestHouse();
        check.dueThrow("an empty row has no part", IndexOutOfBoundsException.class, () -> x.count(0, 0, 1));
        check.due("and the beginning that is empty", 0, () -> x.next(0));
        for (int i = 1; i <= 24; i++) {
            int length = i;
            check.due("token " + length, length, () -> x.put(length % 10));
            check.due("the whole row", 0, () -> x.count(0, 0, length));
            check.dueThrow("no more of it", IndexOutOfBoundsException.class, () -> x.count(0, 0, length + 1));
        }
        State.FULL.refuses(check, "token 25", UnsupportedOperationException.class, h -> h.put(0));
        State.UNASKED.refuses(check, "token 25", UnsupportedOperationException.class, h -> h.put(9));
    }

    private static void aPartHasThoseBetweenNeverNone(Check check) {
        for (int length = 0; length <= 24; length += 6) {
            ForestHouse x = new ForestHouse();
            Make.rule(x, 0, 0, 10);
            Make.rule(x, 0, 0, 0, 11);
            Make.putTimes(x, Math.min(length, 1), 0);
            Make.putTimes(x, Math.max(length - 1, 0), 1);
            for (int place = 0; place <= length; place++) {
                int at = place;
                check.dueThrow("from " + at + " to " + at, IndexOutOfBoundsException.class, () -> x.count(0, at, at));
                check.dueThrow("cost from " + at + " to " + at, IndexOutOfBoundsException.class,
                        () -> x.cost(0, at, at));
                check.dueThrow("tree from " + at + " to " + at, IndexOutOfBoundsException.class,
                        () -> x.tree(0, at, at, 0));
                check.dueThrow("back from " + at, IndexOutOfBoundsException.class, () -> x.count(0, at, at - 1));
                if (at > 0) {
                    check.due("up to " + at, 1, () -> x.count(0, 0, at));
                    check.due("the one before " + at, at == 1 ? 1 : 0, () -> x.count(0, at - 1, at));
                }
            }
        }
    }
}
