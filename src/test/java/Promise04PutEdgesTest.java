/** Promise 4, sentence by sentence. */
final class Promise04PutEdgesTest {
    public static void main(String[] args) {
        Section section = new Section("Promise 4", "## Promise 4: put", "## Promise 5");
        section.sentence("A token more of the row: how many it has.",
                Promise04PutEdgesTest::aTokenMoreOfTheRowHowManyItHas);
        section.sentence("IllegalArgumentException if there is no such token;",
                Promise04PutEdgesTest::illegalArgumentExceptionIfThereIsNoSuchToken);
        section.sentence("UnsupportedOperationException if it has 24.",
                Promise04PutEdgesTest::unsupportedOperationExceptionIfItHas24);
        section.end();
    }

    private static void aTokenMoreOfTheRowHowManyItHas(Check check) {
        ForestHouse x = new ForestHouse();
        for (int token = 0; token < 10; token++) {
            Make.rule(x, token, token, 10 + token);
        }
        for (int i = 0; i < 24; i++) {
            int length = i + 1;
            int token = i * 3 % 10;
            check.due("token " + token, length, () -> x.put(token));
            check.due("it is the last one", 1, () -> x.count(token, length - 1, length));
            check.due("and no other one", 0, () -> x.count((token + 1) % 10, length - 1, length));
        }
        for (int i = 0; i < 24; i++) {
            int place = i;
            check.due("it is still there", 1, () -> x.count(place * 3 % 10, place, place + 1));
        }
        x.cut(0);
        check.due("the first behind cut(0)", 1, () -> x.put(9));
        check.due("the second", 2, () -> x.put(0));
        x.clear();
        check.due("the first behind clear", 1, () -> x.put(9));
    }

    private static void illegalArgumentExceptionIfThereIsNoSuchToken(Check check) {
        for (State state : State.ALL) {
            for (int wrong : new int[] {-2, -1, 10, 11, 19, 20}) {
                state.refuses(check, "put(" + wrong + ")", IllegalArgumentException.class, x -> x.put(wrong));
            }
        }
        for (int wrong : Make.WRAPS) {
            State.ASKED.refuses(check, "put(" + wrong + ")", IllegalArgumentException.class, x -> x.put(wrong));
        }
        for (int good : new int[] {0, 9}) {
            ForestHouse x = new ForestHouse();
            check.due("put(" + good + ")", 1, () -> x.put(good));
        }
    }

    private static void unsupportedOperationExceptionIfItHas24(Check check) {
        for (State state : State.WITHOUT_ROOM) {
            for (int t = 0; t < 10; t++) {
                int token = t;
                state.refuses(check, "put(" + t + ")", UnsupportedOperationException.class, x -> x.put(token));
            }
        }
        ForestHouse x = new ForestHouse();
        Make.putTimes(x, 23, 1);
        check.due("the 24th", 24, () -> x.put(2));
        check.dueThrow("the 25th", UnsupportedOperationException.class, () -> x.put(3));
        x.cut(24);
        check.dueThrow("the 25th behind cut(24)", UnsupportedOperationException.class, () -> x.put(3));
        x.cut(23);
        check.due("the 24th behind cut(23)", 24, () -> x.put(3));
        check.dueThrow("the 25th again", UnsupportedOperationException.class, () -> x.put(3));
        x.clear();
        check.due("the first behind clear", 1, () -> x.put(3));
    }
}
