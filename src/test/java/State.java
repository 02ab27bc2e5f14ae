import java.util.ArrayList;
import java.util.List;

/**
 * A state that an object is brought to, always by the same calls. It knows what a new object in it
 * answers to all that one can ask, and finds out whether a refused call changes any of that. Each object
 * stays under the 512 calls for which the document speaks.
 */
final class State {
    private static final int PORTION = 400;
    private static final int SYMBOLS = 10;
    private static final int MAX_ROW = 24;

    static final State NEW = new State("new", x -> { });
    static final State ORDINARY = new State("ordinary", State::ordinary);
    static final State ASKED = new State("asked", x -> {
        ordinary(x);
        x.count(0, 0, 6);
        x.next(6);
    });
    static final State CUT = new State("cut", x -> {
        ordinary(x);
        x.count(0, 0, 6);
        x.cut(3);
    });
    static final State UNASKED = new State("unasked", x -> {
        fullProductions(x);
        Make.putTimes(x, MAX_ROW, 0);
    });
    static final State FULL = new State("full", x -> {
        fullProductions(x);
        Make.putTimes(x, MAX_ROW, 0);
        x.tree(0, 0, MAX_ROW, ForestHouse.NONE);
    });
    static final State CLEARED = new State("cleared", x -> {
        fullProductions(x);
        Make.putTimes(x, MAX_ROW, 0);
        x.tree(0, 0, MAX_ROW, ForestHouse.NONE);
        x.clear();
    });

    static final State[] ALL = {NEW, ORDINARY, ASKED, CUT, UNASKED, FULL, CLEARED};
    static final State[] WITH_TREE = {ORDINARY, ASKED, CUT, FULL};
    static final State[] WITH_ROW = {ORDINARY, ASKED, CUT, UNASKED, FULL};
    static final State[] WITH_ROOM = {NEW, ORDINARY, ASKED, CUT, CLEARED};
    static final State[] WITHOUT_ROOM = {UNASKED, FULL};

    /** The calls that make it. */
    interface Calls {
        void on(ForestHouse x);
    }

    private record Question(String name, Check.On call) { }

    private final String name;
    private final Calls calls;
    private List<List<Question>> portions;
    private List<String> untouched;

    private State(String name, Calls calls) {
        this.name = name;
        this.calls = calls;
    }

    /** Six productions, two steps among them; a row of six whose last one isn't counted yet; a tree. */
    private static void ordinary(ForestHouse x) {
        Make.rule(x, 5, 0, 0, 10, 0);
        Make.rule(x, 2, 0, 11);
        Make.rule(x, 1, 0, 1);
        Make.rule(x, 0, 1, 11);
        Make.rule(x, 3, 1, 12, 0, 13);
        Make.rule(x, 0, 2, 0);
        Make.puts(x, 1, 0, 1, 0, 1);
        x.tree(0, 0, 5, 1);
        x.put(0);
    }

    /** All of the room, steps through all symbols, and trees as large as they can be. */
    private static void fullProductions(ForestHouse x) {
        for (int symbol = 0; symbol < SYMBOLS - 1; symbol++) {
            Make.rule(x, 1000, symbol, symbol + 1);
        }
        Make.rule(x, 1000, 9, 0, 0);
        Make.rules(x, 14, 1000, 9, 10);
    }

    ForestHouse made() {
        ForestHouse x = new ForestHouse();
        calls.on(x);
        return x;
    }

    /** Whether a call in this state throws what it must, and everything is behind it as it was before. */
    void refuses(Check check, String what, Class<? extends RuntimeException> want, Check.On call) {
        ForestHouse x = made();
        check.dueThrow("in the " + name + " state " + what, want, () -> call.answer(x));
        if (untouched == null) {
            portions = portions();
            untouched = answers(null);
        }
        List<String> got = answers(call);
        String difference = "nothing";
        for (int i = 0; i < got.size() && difference.equals("nothing"); i++) {
            if (!got.get(i).equals(untouched.get(i))) {
                difference = untouched.get(i) + " to " + got.get(i);
            }
        }
        check.same("in the " + name + " state the change by " + what, "nothing", difference);
    }

    /** All answers, behind the call if there is one. */
    private List<String> answers(Check.On call) {
        List<String> all = new ArrayList<>();
        for (List<Question> portion : portions) {
            ForestHouse x = made();
            if (call != null) {
                Check.told(() -> call.answer(x));
            }
            for (Question question : portion) {
                all.add(question.name() + " = " + Check.told(() -> question.call().answer(x)));
            }
        }
        return all;
    }

    private List<List<Question>> portions() {
        List<List<Question>> all = new ArrayList<>();
        List<Question> asked = asked();
        for (int i = 0; i < asked.size(); i += PORTION) {
            all.add(asked.subList(i, Math.min(i + PORTION, asked.size())));
        }
        all.add(moreTokens());
        all.add(moreProductions());
        all.add(moreSteps());
        all.add(fewerTokens());
        all.add(anotherTree());
        all.add(cleared());
        return all;
    }

    private int length() {
        ForestHouse x = made();
        int length = 0;
        while (length < MAX_ROW && isPlace(x, length + 1)) {
            length++;
        }
        return length;
    }

    private static boolean isPlace(ForestHouse x, int m) {
        return !Check.told(() -> x.next(m)).startsWith("throws");
    }

    private int size() {
        ForestHouse x = made();
        int size = 0;
        while (size < 440 && isNode(x, size)) {
            size++;
        }
        return size;
    }

    private static boolean isNode(ForestHouse x, int i) {
        return !Check.told(() -> x.node(i, 0)).startsWith("throws");
    }

    /** Questions that change nothing. */
    private List<Question> asked() {
        List<Question> all = new ArrayList<>();
        int length = length();
        int size = size();
        for (int i = 0; i <= size; i++) {
            for (int what = 0; what < 4; what++) {
                all.add(node(i, what));
            }
        }
        for (int m = 0; m <= length + 1; m++) {
            all.add(next(m));
        }
        for (int from = 0; from <= length; from++) {
            for (int to = from + 1; to <= length + 1; to++) {
                if (length < 10 || from == 0 || to >= length || to == from + 1) {
                    addPart(all, from, to);
                }
            }
        }
        return all;
    }

    private static void addPart(List<Question> all, int from, int to) {
        for (int symbol = 0; symbol < SYMBOLS; symbol++) {
            all.add(count(symbol, from, to));
            all.add(cost(symbol, from, to));
        }
    }

    private static Question node(int i, int what) {
        return new Question("node(" + i + ", " + what + ")", x -> x.node(i, what));
    }

    private static Question next(int m) {
        return new Question("next(" + m + ")", x -> x.next(m));
    }

    private static Question count(int symbol, int from, int to) {
        return new Question("count(" + symbol + ", " + from + ", " + to + ")", x -> x.count(symbol, from, to));
    }

    private static Question cost(int symbol, int from, int to) {
        return new Question("cost(" + symbol + ", " + from + ", " + to + ")", x -> x.cost(symbol, from, to));
    }

    private static Question put(int token) {
        return new Question("put(" + token + ")", x -> x.put(token));
    }

    private static Question production(int head, int a, int cost) {
        return new Question("production(" + head + ", " + a + ", -1, -1, " + cost + ")",
                x -> x.production(head, a, -1, -1, cost));
    }

    private static Question tree(int symbol, int to, int k) {
        return new Question("tree(" + symbol + ", 0, " + to + ", " + k + ")", x -> x.tree(symbol, 0, to, k));
    }

    private static List<Question> moreTokens() {
        List<Question> all = new ArrayList<>();
        for (int i = 0; i <= MAX_ROW; i++) {
            all.add(put(i % 2));
        }
        for (int to = 1; to <= MAX_ROW; to++) {
            all.add(count(0, 0, to));
            all.add(count(1, to - 1, to));
            all.add(next(to));
        }
        return all;
    }

    private static List<Question> moreProductions() {
        List<Question> all = new ArrayList<>();
        for (int i = 0; i < 25; i++) {
            all.add(production(i % SYMBOLS, 10 + i % 3, i));
        }
        all.add(put(0));
        addPart(all, 0, 1);
        for (int m = 0; m <= 6; m++) {
            all.add(next(m));
        }
        return all;
    }

    /** Which steps are refused tells which ways of steps there are. */
    private static List<Question> moreSteps() {
        List<Question> all = new ArrayList<>();
        for (int target = 0; target < SYMBOLS; target++) {
            for (int head = SYMBOLS - 1; head >= 0; head--) {
                all.add(production(head, target, 1));
            }
        }
        all.add(put(1));
        addPart(all, 0, 1);
        addPart(all, 0, 5);
        return all;
    }

    private List<Question> fewerTokens() {
        List<Question> all = new ArrayList<>();
        for (int n = length(); n >= 0; n--) {
            int length = n;
            all.add(new Question("cut(" + n + ")", x -> Make.cut(x, length)));
            all.add(next(n));
            all.add(count(0, 0, n));
            all.add(next(n + 1));
        }
        all.add(node(0, 0));
        all.add(put(1));
        addPart(all, 0, 1);
        return all;
    }

    private List<Question> anotherTree() {
        List<Question> all = new ArrayList<>();
        int length = length();
        for (int k = -1; k < 5; k++) {
            all.add(tree(0, length, k));
            for (int i = 0; i < 12; i++) {
                all.add(node(i, 0));
                all.add(node(i, 2));
            }
        }
        return all;
    }

    private static List<Question> cleared() {
        List<Question> all = new ArrayList<>();
        all.add(new Question("clear()", Make::clear));
        all.add(node(0, 0));
        all.add(next(0));
        all.add(next(1));
        all.add(put(0));
        all.add(production(9, 0, 7));
        all.add(production(0, 10, 7));
        addPart(all, 0, 1);
        all.add(tree(9, 1, 0));
        all.add(node(1, 0));
        return all;
    }
}
