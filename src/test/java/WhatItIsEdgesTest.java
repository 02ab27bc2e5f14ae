/** The document's 'What it is', sentence by sentence. */
final class WhatItIsEdgesTest {
    private static final int CALLS = 512;

    public static void main(String[] args) {
        Section section = new Section("What it is", "## What it is", "## The public face");
        section.sentence("Trees by which rows of tokens come of symbols: how many there are for each part of a row, the"
                + " cheapest one, each one by its number, and which tokens can come next behind a beginning.",
                WhatItIsEdgesTest::treesByWhichRowsOfTokensComeOfSymbols);
        section.sentence("An object is used for at most 512 calls after it has been made; what later calls answer is"
                + " free.", WhatItIsEdgesTest::anObjectIsUsedForAtMost512Calls);
        section.end();
    }

    private static void treesByWhichRowsOfTokensComeOfSymbols(Check check) {
        ForestHouse x = Make.row(1, 0, 1, 0, 1);
        Make.rule(x, 5, 0, 0, 10, 0);
        Make.rule(x, 2, 0, 11);
        check.due("how many", 2, () -> x.count(0, 0, 5));
        check.due("how many of a part", 1, () -> x.count(0, 2, 5));
        check.due("the least cost", 16, () -> x.cost(0, 0, 5));
        check.same("the cheapest one", "0:0-5/0 1:0-1/1 0:2-5/1 1:2-3/2 1:4-5/2", tree(x, ForestHouse.NONE));
        check.same("each by its number", "0:0-5/0 0:0-3/1 1:0-1/2 1:2-3/2 1:4-5/1", tree(x, 1));
        check.due("what can come next", 1025, () -> x.next(5));
    }

    private static String tree(ForestHouse x, int k) {
        return Make.nodes(x, x.tree(0, 0, 5, k));
    }

    /** The last of the 512 calls answers as the first ones do, whichever calls they are. */
    private static void anObjectIsUsedForAtMost512Calls(Check check) {
        asking(check);
        changing(check);
        refused(check);
        cleared(check);
    }

    private static void asking(Check check) {
        ForestHouse x = State.FULL.made();
        int calls = 49;
        for (int i = 0; calls + 5 <= CALLS; i++) {
            int round = i;
            int due = i % 5 == 0 ? 470 : 10;
            int from = i % 5 == 0 ? 0 : 23;
            check.due("count " + i, Make.MANY, () -> x.count(round % 10, 0, 24));
            check.due("cost " + i, 470000 - round % 10 * 1000, () -> x.cost(round % 10, 0, 24));
            check.due("next " + i, 1025, () -> x.next(1 + round % 24));
            check.due("tree " + i, due, () -> x.tree(0, from, 24, 0));
            check.due("node " + i, 24, () -> x.node(due - 1, 2));
            calls += 5;
        }
        for (; calls < CALLS; calls++) {
            check.due("call " + (calls + 1), 24, () -> x.node(0, 2));
        }
    }

    private static void changing(Check check) {
        ForestHouse x = new ForestHouse();
        Make.rule(x, 1, 0, 10, 0);
        Make.rule(x, 1, 0, 10);
        for (int calls = 2; calls + 3 <= CALLS; calls += 3) {
            int number = calls;
            check.due("put, call " + calls, 1, () -> x.put(number % 10));
            check.due("count, call " + calls, number % 10 == 0 ? 1 : 0, () -> x.count(0, 0, 1));
            x.cut(0);
        }
    }

    private static void refused(Check check) {
        ForestHouse x = new ForestHouse();
        for (int calls = 0; calls < CALLS - 2; calls++) {
            check.dueThrow("refused call " + calls, IllegalArgumentException.class, () -> x.put(10));
        }
        check.due("call 511", 0, () -> Make.rule(x, 0, 0, 10));
        check.due("call 512", 1, () -> x.put(0));
    }

    private static void cleared(Check check) {
        ForestHouse x = new ForestHouse();
        for (int calls = 0; calls + 4 <= CALLS; calls += 4) {
            check.due("the first number, behind " + calls, 0, () -> Make.rule(x, 3, 1, 10));
            check.due("the first token, behind " + calls, 1, () -> x.put(0));
            check.due("the cost, behind " + calls, 3, () -> x.cost(1, 0, 1));
            x.clear();
        }
    }
}
