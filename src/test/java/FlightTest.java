import java.util.Random;

/** Promises 23 and 24: flee, fled. */
public final class FlightTest {
    public static void main(String[] args) {
        rows();
        ownWard();
        overTheBound();
        backInHisOwn();
        latestThatToldANumber();
        for (int seed = 0; seed < 400; seed++) {
            randomFlights(new Random(seed));
        }
        Due.end();
    }

    private static void flees(WardWatch x, String row, boolean cried, int courts, int minutes, int last) {
        Due.lay(x, row);
        Due.is("flee(" + cried + ") of " + row, x.flee(cried), courts);
        Due.is("fled(0) of " + row, x.fled(0), minutes);
        Due.is("fled(1) of " + row, x.fled(1), last);
    }

    private static void isNoRow(WardWatch x, String row) {
        Due.lay(x, row);
        Due.is("flee of " + row, x.flee(true), -1);
        Due.is("count(2)", x.count(2), 0);
    }

    private static void rows() {
        WardWatch x = new WardWatch();
        x.way(0, 1, 5);
        x.way(1, 11, 6);
        for (String row : new String[] {"", "A", "AC", "AA", "ABB", "AB ", " AB", "ab", "A\u0000", "@A", "BLM", "MA",
            "AB\n", "A\u00c2", "ABLA", "ABABABABABA"}) {
            isNoRow(x, row);
            Due.is("fled(0)", x.fled(0), -9);
        }
        flees(x, "ABABABABAB", false, 10, 45, 1);
        flees(x, "AB", false, 2, 5, 1);
        flees(x, "ABL", true, 3, 11, 11);
        flees(x, "LB", true, 2, 6, 1);
        x.way(0, 1, -1);
        isNoRow(x, "AB");
        isNoRow(x, "LBA");
        x.way(0, 11, 1);
        isNoRow(x, "AB");
    }

    private static void ownWard() {
        WardWatch x = new WardWatch();
        x.way(2, 3, 99);
        x.way(3, 4, 99);
        x.court(2, 3, 1);
        x.court(3, 3, 1);
        x.court(4, 3, 1);
        flees(x, "CDEDC", false, 5, 396, 2);
    }

    private static void overTheBound() {
        WardWatch x = new WardWatch();
        x.way(0, 1, 10);
        x.way(1, 2, 5);
        x.court(1, 1, 60);
        x.court(2, 1, 60);
        flees(x, "AB", true, 1, 0, 0);
        Due.tellLaws(x, 0, "follow 999;", 1);
        flees(x, "AB", true, 1, 0, 0);
        Due.tellLaws(x, 1, "follow 9;", 1);
        flees(x, "AB", true, 1, 0, 0);
        Due.tellLaws(x, 1, "follow 10;", 1);
        flees(x, "AB", false, 2, 10, 1);
        flees(x, "ABC", false, 2, 10, 1);
        Due.tellLaws(x, 1, "follow 14;", 1);
        flees(x, "ABC", false, 2, 10, 1);
        Due.tellLaws(x, 1, "follow 15 cry;", 1);
        flees(x, "ABC", false, 1, 0, 0);
        flees(x, "ABC", true, 3, 15, 2);
        flees(x, "CBA", false, 3, 15, 0);
        Due.tellLaws(x, 0, "", 0);
        flees(x, "CBA", true, 2, 5, 1);
        Due.tellLaws(x, 0, "follow 9;", 1);
        flees(x, "CBA", false, 2, 5, 1);
        Due.tellLaws(x, 0, "follow 10;", 1);
        flees(x, "CBA", false, 3, 15, 0);
    }

    /** The minutes are told from the latest court of his own; behind his end he comes to none. */
    private static void backInHisOwn() {
        WardWatch x = new WardWatch();
        x.way(0, 1, 10);
        x.way(1, 2, 10);
        x.way(2, 3, 10);
        x.court(1, 1, 60);
        x.court(3, 1, 60);
        Due.tellLaws(x, 1, "follow 10;", 1);
        flees(x, "ABCD", false, 4, 30, 3);
        flees(x, "ABABAB", false, 6, 50, 1);
        Due.tellLaws(x, 1, "follow 9;", 1);
        flees(x, "ABCD", false, 1, 0, 0);
        flees(x, "BAB", false, 1, 0, 1);
    }

    private static void latestThatToldANumber() {
        WardWatch x = new WardWatch();
        x.way(0, 1, 10);
        flees(x, "AB", false, 2, 10, 1);
        isNoRow(x, "ABC");
        Due.is("fled(0)", x.fled(0), 10);
        Due.is("fled(1)", x.fled(1), 1);
        x.court(1, 1, 60);
        x.way(0, 1, 20);
        Due.is("fled(0)", x.fled(0), 10);
        for (int what : new int[] {-1, 2, Integer.MAX_VALUE, Integer.MIN_VALUE}) {
            Due.is("fled(" + what + ")", x.fled(what), -9);
        }
    }

    private static void randomFlights(Random random) {
        WardWatch x = new WardWatch();
        int[][] ways = new int[12][12];
        int[] ward = new int[12];
        for (int c = 0; c < 12; c++) {
            ward[c] = random.nextInt(3);
            x.court(c, ward[c], 60);
            for (int d = 0; d < c; d++) {
                ways[c][d] = ways[d][c] = random.nextInt(5) == 0 ? 0 : 1 + random.nextInt(9);
                x.way(c, d, ways[c][d] == 0 ? -1 : ways[c][d]);
            }
        }
        int[] follow = new int[4];
        boolean[] cry = new boolean[4];
        for (int w = 0; w < 4; w++) {
            follow[w] = random.nextInt(4) == 0 ? -1 : random.nextInt(25);
            cry[w] = random.nextInt(3) == 0;
            if (follow[w] >= 0) {
                Due.tellLaws(x, w, "follow " + follow[w] + (cry[w] ? " cry;" : ";"), 1);
            }
        }
        for (int i = 0; i < 12; i++) {
            int[] row = random.ints(2 + random.nextInt(9), 0, 12).toArray();
            for (int k = 1; k < row.length && random.nextInt(30) > 0; k++) {
                while (ways[row[k - 1]][row[k]] == 0) {
                    row[k] = random.nextInt(12);
                }
            }
            boolean cried = random.nextBoolean();
            StringBuilder text = new StringBuilder();
            boolean isRow = true;
            boolean follows = true;
            int due = 1;
            int minutes = 0;
            for (int k = 0; k < row.length; k++) {
                text.append((char) (65 + row[k]));
                isRow &= k == 0 || ways[row[k - 1]][row[k]] > 0;
                if (k > 0 && isRow && follows) {
                    int since = 0;
                    for (int b = k; b > 0 && (b == k || ward[row[b]] != ward[row[0]]); b--) {
                        since += ways[row[b - 1]][row[b]];
                    }
                    int w = ward[row[k]];
                    follows = w == ward[row[0]] || follow[w] >= since && (cried || !cry[w]);
                    due += follows ? 1 : 0;
                    minutes += follows ? ways[row[k - 1]][row[k]] : 0;
                }
            }
            if (isRow) {
                flees(x, text.toString(), cried, due, minutes, row[due - 1]);
            } else {
                isNoRow(x, text.toString());
            }
        }
    }
}
