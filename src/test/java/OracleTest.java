import java.util.Random;

/** Runs of up to 512 calls, each answer beside that of the Oracle. Promises 1 to 10. */
final class OracleTest {
    private static final int[] ODD = {
        Integer.MIN_VALUE, Integer.MIN_VALUE + 1, -1000000, -3, -2, -1, 0, 1, 2, 3, 4, 8, 9, 10, 11, 18, 19, 20,
        21, 23, 24, 25, 26, 31, 32, 33, 469, 470, 999, 1000, 1001, 999998, 999999, 1000000, 1000001,
        Integer.MAX_VALUE - 1, Integer.MAX_VALUE
    };

    private static final int CALLS = 512;

    private final Check check;
    private final Random random;
    private final int symbols;
    private final int tokens;
    private final boolean cheap;
    private final ForestHouse house = new ForestHouse();
    private final Oracle oracle = new Oracle();
    private String run = "";
    private int calls = 0;

    private OracleTest(Check check, long seed) {
        this.check = check;
        this.random = new Random(seed);
        symbols = 1 + random.nextInt(random.nextInt(3) == 0 ? 10 : 4);
        tokens = 1 + random.nextInt(3);
        cheap = random.nextBoolean();
    }

    private int odd(int usual) {
        return random.nextInt(60) == 0 ? ODD[random.nextInt(ODD.length)] : usual;
    }

    private int symbol() {
        return odd(random.nextInt(symbols));
    }

    private int item() {
        return odd(random.nextInt(5) < 3 ? random.nextInt(symbols) : 10 + random.nextInt(tokens));
    }

    private void same(String call, Check.Call want, Check.Call got) {
        run += call + " ";
        ask("", want, got);
    }

    /** Behind the last call for which the document speaks, nothing is asked. */
    private void ask(String call, Check.Call want, Check.Call got) {
        if (calls < CALLS) {
            calls++;
            check.same(run + call, Check.told(want), Check.told(got));
        }
    }

    private void production() {
        int head = symbol();
        int a = random.nextInt(4) == 0 ? odd(10 + random.nextInt(tokens)) : item();
        int b = odd(random.nextInt(3) == 0 ? -1 : item());
        int c = odd(b == -1 || random.nextInt(2) == 0 ? -1 : item());
        int cost = odd(cheap ? random.nextInt(3) : random.nextInt(1001));
        same("production(" + head + ", " + a + ", " + b + ", " + c + ", " + cost + ")",
                () -> oracle.production(head, a, b, c, cost), () -> house.production(head, a, b, c, cost));
    }

    private void put() {
        int token = odd(random.nextInt(tokens));
        same("put(" + token + ")", () -> oracle.put(token), () -> house.put(token));
    }

    private void cut() {
        int n = odd(oracle.length() - random.nextInt(4));
        same("cut(" + n + ")", () -> {
            oracle.cut(n);
            return 0;
        }, () -> {
            house.cut(n);
            return 0;
        });
    }

    private void ask() {
        int symbol = random.nextInt(3) == 0 ? symbol() : 0;
        int from = odd(random.nextInt(3) == 0 ? random.nextInt(oracle.length() + 1) : 0);
        int to = odd(random.nextInt(3) == 0 ? random.nextInt(oracle.length() + 1) : oracle.length());
        String part = "(" + symbol + ", " + from + ", " + to;
        same("count" + part + ")", () -> oracle.count(symbol, from, to), () -> house.count(symbol, from, to));
        same("cost" + part + ")", () -> oracle.cost(symbol, from, to), () -> house.cost(symbol, from, to));
        int k = odd(random.nextInt(3) == 0 ? -1 : number(symbol, from, to));
        same("tree" + part + ", " + k + ")",
                () -> oracle.tree(symbol, from, to, k), () -> house.tree(symbol, from, to, k));
    }

    private int number(int symbol, int from, int to) {
        int count = 0;
        try {
            count = oracle.count(symbol, from, to);
        } catch (IndexOutOfBoundsException e) {
            count = 0;
        }
        int bound = Math.min(count, 999999) + 1;
        return random.nextInt(4) == 0 ? bound - 1 : random.nextInt(bound);
    }

    /** All of a small tree's nodes, some of a large one's. */
    private void nodes() {
        int stride = 1 + random.nextInt(1 + oracle.nodes() / 12);
        for (int i = -1; i < oracle.nodes(); i += stride) {
            facts(i);
        }
        facts(oracle.nodes());
    }

    private void facts(int i) {
        for (int what = 0; what < 4; what++) {
            int fact = odd(what);
            ask("node(" + i + ", " + fact + ")", () -> oracle.node(i, fact), () -> house.node(i, fact));
        }
    }

    private void nexts() {
        int last = oracle.length() + 1;
        for (int m = -1; m <= last; m++) {
            int at = odd(m);
            ask("next(" + at + ")", () -> oracle.next(at), () -> house.next(at));
        }
    }

    private void clear() {
        same("clear()", () -> {
            oracle.clear();
            return 0;
        }, () -> {
            house.clear();
            return 0;
        });
        nodes();
        nexts();
    }

    private void run(int longest) {
        while (calls < CALLS && !check.anyWrong()) {
            int which = random.nextInt(100);
            if (which < 30) {
                production();
            } else if (which < 75) {
                if (oracle.length() < longest) {
                    put();
                } else {
                    cut();
                }
            } else if (which < 80) {
                cut();
            } else if (which < 90) {
                ask();
                nodes();
            } else if (which < 97) {
                ask();
            } else if (which < 99 || random.nextInt(3) > 0) {
                nexts();
            } else {
                clear();
            }
        }
    }

    public static void main(String[] args) {
        Check check = new Check();
        for (long seed = 0; seed < 1500 && !check.anyWrong(); seed++) {
            new OracleTest(check, seed).run(3 + (int) (seed % 8));
        }
        for (long seed = 10000; seed < 10150 && !check.anyWrong(); seed++) {
            new OracleTest(check, seed).run(25);
        }
        check.end();
    }
}
