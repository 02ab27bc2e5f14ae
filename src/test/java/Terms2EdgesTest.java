import java.util.NoSuchElementException;

/** The document's Terms, 2, sentence by sentence. */
final class Terms2EdgesTest {
    private static final int NONE = ForestHouse.NONE;

    public static void main(String[] args) {
        Section section = new Section("Terms 2", "\n2. ", "\n3. ");
        section.sentence("A TREE of a symbol over a part: a production of that head, the part parted into as many parts"
                + " as it has items, one behind the other;", Terms2EdgesTest::aTreeHasAsManyPartsAsItems);
        section.sentence("an item that is a token has a part of just this token, for one that is a symbol there is a"
                + " tree of it over its part.", Terms2EdgesTest::anItemThatIsATokenHasAPartOfJustThisToken);
        section.sentence("Its COST is that of all its productions together, as often as they stand in it.",
                Terms2EdgesTest::itsCostIsThatOfAllItsProductionsAsOftenAsTheyStandInIt);
        section.sentence("Trees of a symbol over a part are in ORDER: by their productions' numbers;",
                Terms2EdgesTest::inOrderByTheirProductionsNumbers);
        section.sentence("then by where the first item's part ends, then the second one's;",
                Terms2EdgesTest::thenByWhereTheFirstItemsPartEndsThenTheSecondOnes);
        section.sentence("then by the first item's tree (if it is a symbol), then by the second one's, the third"
                + " one's.",
                Terms2EdgesTest::thenByTheFirstItemsTreeThenTheSecondOnesTheThirdOnes);
        section.sentence("The BEST one is the first one of those with the least cost.",
                Terms2EdgesTest::theBestOneIsTheFirstOfThoseWithTheLeastCost);
        section.sentence("A tree's NODES are its productions, each with its part: the tree's own, then the nodes of its"
                + " items' trees, one behind the other.", Terms2EdgesTest::nodesAreTheTreesOwnThenThoseOfItsItems);
        section.end();
    }

    private static void isTree(Check check, ForestHouse x, int to, int k, String want) {
        check.same("tree " + k, want, Make.nodes(x, x.tree(0, 0, to, k)));
    }

    /** A part with fewer tokens than the production has items can't be parted so. */
    private static void aTreeHasAsManyPartsAsItems(Check check) {
        for (int i = 1; i <= 3; i++) {
            int items = i;
            ForestHouse x = new ForestHouse();
            x.production(0, 1, items > 1 ? 1 : NONE, items > 2 ? 1 : NONE, 0);
            Make.rule(x, 0, 1, 10);
            Make.rule(x, 0, 1, 10, 1);
            Make.putTimes(x, 24, 0);
            for (int t = 1; t <= 24; t++) {
                int to = t;
                int ways = items == 1 ? 1 : items == 2 ? to - 1 : (to - 1) * (to - 2) / 2;
                check.due(items + " items over " + to + " tokens", ways, () -> x.count(0, 0, to));
                check.due(items + " items over the last " + to, ways, () -> x.count(0, 24 - to, 24));
            }
        }
        ForestHouse y = Make.row(0, 0);
        Make.rule(y, 0, 1, 10, 10);
        check.due("a production of another head", 0, () -> y.count(0, 0, 2));
        check.due("of this head", 1, () -> y.count(1, 0, 2));
    }

    private static void anItemThatIsATokenHasAPartOfJustThisToken(Check check) {
        ForestHouse x = Make.row(3, 3, 4, 3);
        Make.rule(x, 0, 0, 13);
        Make.rule(x, 0, 1, 13, 14);
        Make.rule(x, 0, 2, 0, 14);
        Make.rule(x, 0, 2, 14, 0);
        Make.rule(x, 0, 3, 0, 5);
        Make.rule(x, 0, 4, 5);
        check.due("this token", 1, () -> x.count(0, 0, 1));
        check.due("another token", 0, () -> x.count(0, 2, 3));
        check.due("this token twice", 0, () -> x.count(0, 0, 2));
        check.due("this token and another one", 0, () -> x.count(0, 1, 3));
        check.due("two tokens", 1, () -> x.count(1, 1, 3));
        check.due("two tokens and one too many before", 0, () -> x.count(1, 0, 3));
        check.due("two tokens and one too many behind", 0, () -> x.count(1, 1, 4));
        check.due("the other way round", 0, () -> x.count(1, 2, 4));
        check.due("a symbol and a token", 1, () -> x.count(2, 1, 3));
        check.due("a token and a symbol", 1, () -> x.count(2, 2, 4));
        check.due("a symbol's part too long", 0, () -> x.count(2, 0, 3));
        check.due("a symbol without a tree behind one with", 0, () -> x.count(3, 0, 2));
        check.due("a symbol without a tree alone", 0, () -> x.count(4, 0, 1));
    }

    private static void itsCostIsThatOfAllItsProductionsAsOftenAsTheyStandInIt(Check check) {
        ForestHouse x = new ForestHouse();
        Make.rule(x, 1000, 0, 10, 0);
        Make.rule(x, 1000, 0, 10);
        Make.rule(x, 0, 1, 10, 1);
        Make.rule(x, 0, 1, 10);
        Make.rule(x, 7, 2, 1, 1, 1);
        Make.rule(x, 1, 3, 0, 11);
        Make.putTimes(x, 24, 0);
        for (int t = 1; t <= 24; t++) {
            int to = t;
            check.due(to + " times 1000", to * 1000, () -> x.cost(0, 0, to));
            check.due(to + " times nothing", 0, () -> x.cost(1, 0, to));
            check.due("once 7, if at all", to < 3 ? NONE : 7, () -> x.cost(2, 0, to));
            check.due("no tree, no cost", NONE, () -> x.cost(3, 0, to));
        }
        ForestHouse y = State.FULL.made();
        check.due("the dearest of all", 470000, () -> y.cost(0, 0, 24));
        check.due("the dearest over one token", 10000, () -> y.cost(0, 23, 24));
    }

    /** Neither ends, nor items, nor costs go before the number; the last of 24 too. */
    private static void inOrderByTheirProductionsNumbers(Check check) {
        ForestHouse x = Make.row(0, 0);
        Make.rule(x, 1000, 0, 1);
        Make.rule(x, 0, 0, 10, 10);
        Make.rule(x, 500, 0, 2, 2);
        Make.rule(x, 0, 1, 2, 2);
        Make.rule(x, 0, 2, 10);
        for (int number = 5; number < 24; number++) {
            Make.rule(x, 24 - number, 0, 10, 2);
        }
        isTree(check, x, 2, 0, "0:0-2/0 3:0-2/1 4:0-1/2 4:1-2/2");
        isTree(check, x, 2, 1, "1:0-2/0");
        isTree(check, x, 2, 2, "2:0-2/0 4:0-1/1 4:1-2/1");
        for (int number = 5; number < 24; number++) {
            isTree(check, x, 2, number - 2, number + ":0-2/0 4:1-2/1");
        }
        check.dueThrow("no more", NoSuchElementException.class, () -> x.tree(0, 0, 2, 22));
    }

    /** Ends go before the items' trees, and the first end before the second one. */
    private static void thenByWhereTheFirstItemsPartEndsThenTheSecondOnes(Check check) {
        ForestHouse x = Make.row(0, 0, 0, 0);
        Make.rule(x, 0, 0, 1, 1, 1);
        Make.rule(x, 0, 1, 10, 10);
        Make.rule(x, 0, 1, 10);
        isTree(check, x, 4, 0, "0:0-4/0 2:0-1/1 2:1-2/1 1:2-4/1");
        isTree(check, x, 4, 1, "0:0-4/0 2:0-1/1 1:1-3/1 2:3-4/1");
        isTree(check, x, 4, 2, "0:0-4/0 1:0-2/1 2:2-3/1 2:3-4/1");
        check.dueThrow("no more of three", NoSuchElementException.class, () -> x.tree(0, 0, 4, 3));
        ForestHouse y = new ForestHouse();
        Make.rule(y, 0, 0, 1, 1);
        Make.rule(y, 0, 1, 10, 1);
        Make.rule(y, 0, 1, 10);
        Make.putTimes(y, 24, 0);
        for (int k = 0; k < 23; k++) {
            int first = k + 1;
            int number = k;
            check.due("two items, tree " + k, 25, () -> y.tree(0, 0, 24, number));
            check.due("its first item ends", first, () -> y.node(1, 2));
            check.due("its second item begins", first, () -> y.node(1 + first, 1));
        }
        check.dueThrow("no more of two", NoSuchElementException.class, () -> y.tree(0, 0, 24, 23));
    }

    /** The first item's tree changes last; one that is a token changes never. */
    private static void thenByTheFirstItemsTreeThenTheSecondOnesTheThirdOnes(Check check) {
        int[][] rules = {{1, 1, 1}, {12, 1, 1}, {1, 12, 1}, {1, 1, 12}, {1, 1}, {12, 1}, {1, 12}, {12, 12, 1}, {1}};
        for (int[] items : rules) {
            ForestHouse x = new ForestHouse();
            Make.rule(x, 0, 0, items);
            Make.rules(x, 3, 0, 1, 12);
            Make.putTimes(x, items.length, 2);
            int symbols = 0;
            for (int item : items) {
                symbols += item < 10 ? 1 : 0;
            }
            int all = (int) Math.pow(3, symbols);
            for (int k = 0; k < all; k++) {
                isTree(check, x, items.length, k, "0:0-" + items.length + "/0" + digits(items, symbols, k));
            }
            check.dueThrow("no more", NoSuchElementException.class, () -> x.tree(0, 0, items.length, all));
        }
    }

    /** The nodes of the items that are symbols: k's digits to the base of 3, the first one first. */
    private static String digits(int[] items, int symbols, int k) {
        StringBuilder text = new StringBuilder();
        int left = symbols;
        for (int i = 0; i < items.length; i++) {
            if (items[i] < 10) {
                left--;
                int digit = k / (int) Math.pow(3, left) % 3;
                text.append(" ").append(1 + digit).append(":").append(i).append("-").append(i + 1).append("/1");
            }
        }
        return text.toString();
    }

    private static void theBestOneIsTheFirstOfThoseWithTheLeastCost(Check check) {
        ForestHouse x = Make.row(0);
        Make.rule(x, 2, 0, 10);
        isTree(check, x, 1, NONE, "0:0-1/0");
        Make.rule(x, 1, 0, 10);
        isTree(check, x, 1, NONE, "1:0-1/0");
        Make.rule(x, 1, 0, 10);
        isTree(check, x, 1, NONE, "1:0-1/0");
        Make.rules(x, 20, 3, 0, 10);
        Make.rule(x, 0, 0, 10);
        isTree(check, x, 1, NONE, "23:0-1/0");

        ForestHouse ends = Make.row(0, 0, 0, 0);
        Make.rule(ends, 0, 0, 1, 1, 1);
        Make.rule(ends, 4, 1, 10, 10);
        Make.rule(ends, 4, 1, 10);
        isTree(check, ends, 4, NONE, "0:0-4/0 2:0-1/1 2:1-2/1 1:2-4/1");
        Make.rule(ends, 3, 2, 10, 10);
        Make.rule(ends, 0, 0, 1, 2, 1);
        isTree(check, ends, 4, NONE, "4:0-4/0 2:0-1/1 3:1-3/1 2:3-4/1");

        ForestHouse items = Make.row(0, 0, 0);
        Make.rule(items, 0, 0, 1, 1, 1);
        Make.rule(items, 6, 1, 10);
        Make.rule(items, 5, 1, 10);
        Make.rule(items, 5, 1, 10);
        isTree(check, items, 3, NONE, "0:0-3/0 2:0-1/1 2:1-2/1 2:2-3/1");
    }

    private static void nodesAreTheTreesOwnThenThoseOfItsItems(Check check) {
        ForestHouse x = Make.row(5);
        Make.rule(x, 0, 0, 15);
        isTree(check, x, 1, 0, "0:0-1/0");
        ForestHouse y = Make.row(5, 6, 7, 5, 6, 7, 8);
        Make.rule(y, 0, 0, 1, 2, 18);
        Make.rule(y, 0, 1, 15, 3, 4);
        Make.rule(y, 0, 2, 1);
        Make.rule(y, 0, 3, 16);
        Make.rule(y, 0, 4, 17);
        isTree(check, y, 7, 0, "0:0-7/0 1:0-3/1 3:1-2/2 4:2-3/2 2:3-6/1 1:3-6/2 3:4-5/3 4:5-6/3");
        ForestHouse tokens = Make.row(5, 5, 5);
        Make.rule(tokens, 0, 0, 15, 15, 15);
        isTree(check, tokens, 3, 0, "0:0-3/0");
    }
}
