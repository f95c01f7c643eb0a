import java.math.BigInteger;

/** Promise 25: doubt, for each table there is. */
public final class DoubtTest {
    public static void main(String[] args) {
        byHand();
        wrongNumbers();
        byCounting();
        allTables();
        Due.end();
    }

    private static void is(int a, int b, int c, int d, long above, long below, long beyond) {
        WardWatch x = new WardWatch();
        String table = "(" + a + ", " + b + ", " + c + ", " + d + ", ";
        Due.is("doubt" + table + "0)", x.doubt(a, b, c, d, 0), above);
        Due.is("doubt" + table + "1)", x.doubt(a, b, c, d, 1), below);
        Due.is("doubt" + table + "2)", x.doubt(a, b, c, d, 2), beyond);
    }

    private static void byHand() {
        is(0, 3, 3, 0, 1, 20, 1);
        is(0, 3, 2, 0, 1, 10, 0);
        is(1, 0, 0, 0, 1, 1, 0);
        is(0, 0, 0, 1, 1, 1, 0);
        is(0, 15, 15, 0, 1, 155117520L, 1);
        is(15, 15, 15, 15, 27539865823493L, 45768026921386L, 0);
        is(1, 1, 1, 1, 5, 6, 0);
    }

    private static void wrongNumbers() {
        WardWatch x = new WardWatch();
        for (int wrong : new int[] {-1, 16, Integer.MAX_VALUE, Integer.MIN_VALUE}) {
            Due.is("walked robbed " + wrong, x.doubt(wrong, 1, 1, 1, 0), -2);
            Due.is("walked not " + wrong, x.doubt(1, wrong, 1, 1, 0), -2);
            Due.is("other robbed " + wrong, x.doubt(1, 1, wrong, 1, 0), -2);
            Due.is("other not " + wrong, x.doubt(1, 1, 1, wrong, 0), -2);
        }
        for (int what : new int[] {-1, 3, Integer.MAX_VALUE, Integer.MIN_VALUE}) {
            Due.is("what " + what, x.doubt(1, 1, 1, 1, what), -2);
        }
        for (int what = 0; what < 3; what++) {
            Due.is("nothing in it, what " + what, x.doubt(0, 0, 0, 0, what), -2);
        }
    }

    /** Small tables by choosing the robbed ones in all ways. */
    private static void byCounting() {
        for (int table = 1; table < 256; table++) {
            int a = table & 3;
            int b = table >> 2 & 3;
            int c = table >> 4 & 3;
            int d = table >> 6 & 3;
            long all = 0;
            long few = 0;
            for (int set = 0; set < 1 << a + b + c + d; set++) {
                if (Integer.bitCount(set) == a + c) {
                    all++;
                    few += Integer.bitCount(set & (1 << a + b) - 1) <= a ? 1 : 0;
                }
            }
            long common = BigInteger.valueOf(few).gcd(BigInteger.valueOf(all)).longValue();
            is(a, b, c, d, few / common, all / common, 20 * few <= all ? 1 : 0);
        }
    }

    private static void allTables() {
        BigInteger[][] choose = new BigInteger[61][61];
        for (int n = 0; n <= 60; n++) {
            for (int k = 0; k <= 60; k++) {
                choose[n][k] = k == 0 ? BigInteger.ONE : n == 0 ? BigInteger.ZERO
                        : choose[n - 1][k - 1].add(choose[n - 1][k]);
            }
        }
        for (int table = 1; table < 65536; table++) {
            int a = table & 15;
            int b = table >> 4 & 15;
            int c = table >> 8 & 15;
            int d = table >> 12 & 15;
            BigInteger all = choose[a + b + c + d][a + c];
            BigInteger few = BigInteger.ZERO;
            for (int i = 0; i <= a; i++) {
                few = few.add(choose[a + b][i].multiply(choose[c + d][a + c - i]));
            }
            BigInteger common = few.gcd(all);
            boolean beyond = few.multiply(BigInteger.valueOf(20)).compareTo(all) <= 0;
            is(a, b, c, d, few.divide(common).longValueExact(), all.divide(common).longValueExact(), beyond ? 1 : 0);
        }
    }
}
