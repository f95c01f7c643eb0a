import java.util.Random;

/** Whatever the arguments and the state, no call throws, and a second object answers the same. */
public final class AnyArgumentsTest {
    private static final int[] ODD = {Integer.MIN_VALUE, Integer.MAX_VALUE, -9, -3, -2, -1, 0, 1, 2, 3, 4, 5, 10, 11,
        12, 13, 20, 21, 23, 24, 30, 31, 50, 59, 60, 99, 100, 200, 800, 999, 1000, 1023, 1600, 1601, 1799, 1800, 4095,
        4096, 100000, 1000000};
    private static final String[] TEXTS = {"age 1 90;leave 0;fine 1;hire 2;", "power stop from 0 to 23;lockup 1;",
        "follow 20;power hold from 3 to 1 cry;", "ABCDEFGHIJ", "ABA", "\u00ff\u0000", "age 5 4;", ""};

    public static void main(String[] args) {
        for (int seed = 0; seed < 1500; seed++) {
            run(seed);
        }
        Due.end();
    }

    private static void run(int seed) {
        WardWatch x = new WardWatch();
        WardWatch y = new WardWatch();
        Random random = new Random(seed);
        for (int call = 0; call < 470; call++) {
            int which = random.nextInt(25);
            int[] n = new int[5];
            for (int i = 0; i < 5; i++) {
                n[i] = random.nextInt(3) == 0 ? ODD[random.nextInt(ODD.length)] : random.nextInt(13);
            }
            n[1] = random.nextInt(4) == 0 ? 1600 + random.nextInt(30) : n[1];
            boolean cried = random.nextBoolean();
            if (random.nextInt(12) == 0) {
                String text = TEXTS[random.nextInt(TEXTS.length)];
                Due.lay(x, text);
                Due.lay(y, text);
                call += 3;
            }
            Due.is("call " + which + " of run " + seed, call(x, which, n, cried), call(y, which, n, cried));
        }
    }

    private static long call(WardWatch x, int which, int[] n, boolean cried) {
        switch (which) {
            case 0: return x.feed(n[0], n[1], n[2], n[3], n[4]);
            case 1: return x.end(n[0]);
            case 2: return x.court(n[0], n[1], n[2]);
            case 3: return x.way(n[0], n[1], n[2]);
            case 4: return x.far(n[0], n[1]);
            case 5: return x.rounds(n[0] * 16 + n[1]);
            case 6: return x.round(n[0]);
            case 7: return x.cry(n[0], n[1]);
            case 8: return x.laws(n[0]);
            case 9: return x.fault(n[0]);
            case 10: return x.law(n[0], n[1]);
            case 11: return x.may(n[0], n[1], n[2], cried);
            case 12: return x.house(n[0], n[1]);
            case 13: return x.purse(n[0], n[1]);
            case 14: return x.would(n[0], n[1]);
            case 15: return x.fill(n[0], n[1]);
            case 16: return x.year(n[0], n[1], n[2]);
            case 17: return x.about(n[0], n[1]);
            case 18: return x.charge(n[0], n[1], n[2], cried);
            case 19: return x.charged(n[0], n[1]);
            case 20: return x.morning();
            case 21: return x.flee(cried);
            case 22: return x.fled(n[0]);
            case 23: return x.doubt(n[0], n[1], n[2], n[3], n[4]);
            default: return x.count(n[0]);
        }
    }
}
