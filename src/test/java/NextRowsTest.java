import java.util.ArrayList;
import java.util.List;
import java.util.Random;

/**
 * next() by Terms 3 alone: for each token, whether some row of any length, the first m tokens, this one
 * and whatever behind it, comes of symbol 0. Such rows are the ways through states: one behind each
 * token, and the last state leads to itself by every token. Promise 10.
 */
final class NextRowsTest {
    private static final int SYMBOLS = 10;
    private static final int TOKENS = 10;
    private static final int COMES = 1024;

    private final Random random;
    private final ForestHouse x = new ForestHouse();
    private final List<int[]> productions = new ArrayList<>();
    private int[] row = new int[0];

    private NextRowsTest(long seed) {
        random = new Random(seed);
    }

    public static void main(String[] args) {
        Check check = new Check();
        for (long seed = 0; seed < 6000 && !check.anyWrong(); seed++) {
            check.about("seed " + seed);
            new NextRowsTest(seed).run(check);
        }
        check.end();
    }

    private void run(Check check) {
        int tokens = 1 + random.nextInt(4);
        makeProductions(1 + random.nextInt(SYMBOLS), tokens);
        makeRow(random.nextInt(3) == 0 ? random.nextInt(25) : random.nextInt(8), tokens);
        for (int m = 0; m <= row.length; m++) {
            if (row.length <= 8 || m == row.length || random.nextInt(4) == 0) {
                int behind = m;
                check.due("next(" + m + ")", due(m), () -> x.next(behind));
            }
        }
    }

    private void makeProductions(int symbols, int tokens) {
        int number = 1 + random.nextInt(24);
        int symbolsOfFive = 1 + random.nextInt(4);
        for (int i = 0; i < number; i++) {
            int[] p = {random.nextInt(symbols), -1, -1, -1};
            int items = 1 + random.nextInt(3);
            for (int j = 1; j <= items; j++) {
                boolean symbol = random.nextInt(5) < symbolsOfFive;
                p[j] = symbol ? random.nextInt(symbols) : SYMBOLS + random.nextInt(tokens);
            }
            try {
                x.production(p[0], p[1], p[2], p[3], 0);
                productions.add(p);
            } catch (IllegalStateException e) {
                // A way of steps to itself: it is no production.
            }
        }
    }

    /** Mostly of tokens that can come next, so that its beginnings are those of some rows. */
    private void makeRow(int length, int tokens) {
        row = new int[length];
        for (int i = 0; i < length; i++) {
            int bits = x.next(i) & (COMES - 1);
            int token = random.nextInt(tokens);
            while (bits != 0 && (bits >> token & 1) == 0 && random.nextInt(200) > 0) {
                token = random.nextInt(tokens);
            }
            row[i] = token;
            x.put(token);
        }
    }

    private int due(int m) {
        int bits = m > 0 && comes(m - 1, row[m - 1], false) ? COMES : 0;
        for (int token = 0; token < TOKENS; token++) {
            bits |= comes(m, token, true) ? 1 << token : 0;
        }
        return bits;
    }

    /** Whether the first m tokens, a token and, if more, some or none behind it come of symbol 0. */
    private boolean comes(int m, int token, boolean more) {
        int states = m + 2;
        boolean[][][] ways = new boolean[SYMBOLS][states][states];
        boolean found = true;
        while (found) {
            found = false;
            for (int[] p : productions) {
                for (int from = 0; from < states; from++) {
                    boolean[] ends = ends(p, from, ways, m, token, more);
                    for (int to = from; to < states; to++) {
                        found |= ends[to] && !ways[p[0]][from][to];
                        ways[p[0]][from][to] |= ends[to];
                    }
                }
            }
        }
        return ways[0][0][m + 1];
    }

    private boolean[] ends(int[] p, int from, boolean[][][] ways, int m, int token, boolean more) {
        boolean[] ends = new boolean[m + 2];
        ends[from] = true;
        for (int j = 1; j < p.length && p[j] != -1; j++) {
            boolean[] behind = new boolean[m + 2];
            for (int u = 0; u <= m + 1; u++) {
                for (int v = u; ends[u] && v <= m + 1; v++) {
                    behind[v] |= p[j] < SYMBOLS ? ways[p[j]][u][v] : leads(u, v, p[j] - SYMBOLS, m, token, more);
                }
            }
            ends = behind;
        }
        return ends;
    }

    private boolean leads(int u, int v, int by, int m, int token, boolean more) {
        if (u == m + 1) {
            return more && v == u;
        }
        return v == u + 1 && by == (u < m ? row[u] : token);
    }
}
