/** Promise 6, sentence by sentence. */
final class Promise06CountEdgesTest {
    public static void main(String[] args) {
        Section section = new Section("Promise 6", "## Promise 6: count", "## Promise 7");
        section.sentence("How many trees of a symbol there are over the row's part from a place on to another one;",
                Promise06CountEdgesTest::howManyTreesOfASymbolThereAreOverTheRowsPart);
        section.sentence("1000000000 for as many or more.", Promise06CountEdgesTest::thousandMillionForAsManyOrMore);
        section.sentence("IndexOutOfBoundsException if there is no such symbol or part.",
                Promise06CountEdgesTest::indexOutOfBoundsExceptionIfThereIsNoSuchSymbolOrPart);
        section.end();
    }

    private static void howManyTreesOfASymbolThereAreOverTheRowsPart(Check check) {
        ForestHouse x = new ForestHouse();
        Make.putTimes(x, 24, 0);
        check.due("none without productions", 0, () -> x.count(0, 0, 24));
        Make.rule(x, 0, 0, 10);
        check.due("one over one token", 1, () -> x.count(0, 0, 1));
        check.due("one over the last token", 1, () -> x.count(0, 23, 24));
        check.due("none over two", 0, () -> x.count(0, 22, 24));
        Make.rule(x, 0, 0, 10, 0);
        check.due("one over all", 1, () -> x.count(0, 0, 24));
        Make.rule(x, 0, 0, 10, 0);
        check.due("two to the 23rd over all", 1 << 23, () -> x.count(0, 0, 24));
        check.due("two over two", 2, () -> x.count(0, 5, 7));
        Make.rules(x, 21, 0, 1, 0);
        check.due("the sum of 21 productions", 21 << 2, () -> x.count(1, 21, 24));
        catalan(check);
    }

    /** Two items with all ends between. */
    private static void catalan(Check check) {
        ForestHouse x = new ForestHouse();
        Make.rule(x, 0, 0, 0, 0);
        Make.rule(x, 0, 0, 10);
        Make.putTimes(x, 24, 0);
        long due = 1;
        for (int n = 1; n <= 24; n++) {
            int tokens = n;
            long trees = due;
            check.due("over " + n, Math.min(trees, Make.MANY), () -> x.count(0, 0, tokens));
            check.due("over the last " + n, Math.min(trees, Make.MANY), () -> x.count(0, 24 - tokens, 24));
            due = due * 2 * (2 * n - 1) / (n + 1);
        }
    }

    private static void thousandMillionForAsManyOrMore(Check check) {
        aboutMany(check);
        powers(check);
        sums(check);
        products(check);
        manyThenNone(check);
    }

    /** Symbol 3 over n tokens has 10 to the nth trees; with symbol 0 it has one, two or none fewer. */
    private static void aboutMany(Check check) {
        ForestHouse x = new ForestHouse();
        Make.rules(x, 9, 0, 1, 10);
        Make.rule(x, 0, 2, 1);
        Make.rule(x, 0, 2, 10);
        Make.rule(x, 0, 3, 2, 3);
        Make.rule(x, 0, 3, 2);
        Make.rule(x, 0, 0, 10, 0);
        Make.rule(x, 0, 0, 1, 3);
        Make.rule(x, 0, 0, 1);
        Make.putTimes(x, 24, 0);
        check.due("a tenth of it", 100000000, () -> x.count(3, 0, 8));
        check.due("just as many", Make.MANY, () -> x.count(3, 0, 9));
        check.due("ten times as many", Make.MANY, () -> x.count(3, 0, 10));
        check.due("one less", 999999999, () -> x.count(0, 0, 9));
        check.due("one less, elsewhere", 999999999, () -> x.count(0, 15, 24));
        check.due("far more", Make.MANY, () -> x.count(0, 0, 24));
        Make.rule(x, 0, 4, 0);
        check.due("one less by a step", 999999999, () -> x.count(4, 0, 9));
        Make.rule(x, 0, 4, 0);
        check.due("two fewer than twice as many", Make.MANY, () -> x.count(4, 0, 9));
        Make.rule(x, 0, 0, 10);
        check.due("one more makes it as many", Make.MANY, () -> x.count(0, 0, 9));
        Make.rule(x, 0, 0, 10);
        check.due("two more make it more", Make.MANY, () -> x.count(0, 0, 9));
    }

    /** 16 to the nth: the powers of two at which ints and longs wrap round are among them. */
    private static void powers(Check check) {
        ForestHouse x = new ForestHouse();
        Make.rule(x, 0, 0, 1, 0);
        Make.rule(x, 0, 0, 1);
        Make.rules(x, 4, 0, 1, 2);
        Make.rules(x, 4, 0, 2, 10);
        Make.rules(x, 2, 0, 3, 2);
        Make.rule(x, 0, 4, 3, 0);
        Make.rule(x, 0, 5, 0, 0);
        Make.rule(x, 0, 6, 0, 0, 0);
        Make.putTimes(x, 24, 0);
        long due = 1;
        for (int n = 1; n <= 24; n++) {
            int to = n;
            due = Math.min(due * 16, Make.MANY);
            long trees = due;
            check.due("16 to the power of " + n, trees, () -> x.count(0, 0, to));
        }
        check.due("two to the 27th", 1 << 27, () -> x.count(4, 0, 7));
        check.due("two to the 31st", Make.MANY, () -> x.count(4, 0, 8));
        check.due("two to the 63rd", Make.MANY, () -> x.count(4, 0, 16));
        check.due("seven times two to the 32nd", Make.MANY, () -> x.count(5, 0, 8));
        check.due("15 times two to the 64th", Make.MANY, () -> x.count(5, 0, 16));
        check.due("21 times two to the 32nd", Make.MANY, () -> x.count(6, 0, 8));
        check.due("253 times two to the 96th", Make.MANY, () -> x.count(6, 0, 24));
    }

    /** Many and many, by productions and by ends. */
    private static void sums(Check check) {
        ForestHouse x = new ForestHouse();
        Make.rule(x, 0, 0, 0, 0);
        Make.rules(x, 10, 0, 0, 10);
        Make.rules(x, 13, 0, 1, 0);
        Make.putTimes(x, 24, 0);
        for (int n = 8; n <= 24; n++) {
            int to = n;
            check.due("thirteen times many over " + n, Make.MANY, () -> x.count(1, 0, to));
        }
        check.due("thirteen times twenty thousand", 13 * 5 * 10000, () -> x.count(1, 0, 4));
    }

    /** One many and two ones, two and one, and three: at each place among the items. */
    private static void products(Check check) {
        for (int which = 1; which < 8; which++) {
            ForestHouse x = new ForestHouse();
            Make.rules(x, 8, 0, 1, 10);
            Make.rule(x, 0, 1, 1, 1);
            Make.rule(x, 0, 2, 11);
            Make.rule(x, 0, 0, (which & 1) != 0 ? 1 : 2, (which & 2) != 0 ? 1 : 2, (which & 4) != 0 ? 1 : 2);
            for (int item = 0; item < 3; item++) {
                boolean many = (which >> item & 1) != 0;
                Make.putTimes(x, many ? 8 : 1, many ? 0 : 1);
            }
            int end = 3 + 7 * Integer.bitCount(which);
            check.due("many among the items " + which, Make.MANY, () -> x.count(0, 0, end));
        }
    }

    private static void manyThenNone(Check check) {
        for (int place = 0; place < 3; place++) {
            ForestHouse x = new ForestHouse();
            Make.rules(x, 8, 0, 1, 10);
            Make.rule(x, 0, 1, 1, 1);
            Make.rule(x, 0, 0, place == 0 ? 2 : 1, place == 1 ? 2 : 1, place == 2 ? 2 : 1);
            Make.putTimes(x, 24, 0);
            check.due("many times many times none at " + place, 0, () -> x.count(0, 0, 24));
        }
    }

    private static void indexOutOfBoundsExceptionIfThereIsNoSuchSymbolOrPart(Check check) {
        Parts.refused(check, "count", ForestHouse::count);
        Parts.there(check, "count", (x, symbol, from, to) -> x.count(symbol, from, to) * (to - from));
    }
}
