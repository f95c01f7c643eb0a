/** Promise 26: count. */
public final class CountTest {
    public static void main(String[] args) {
        WardWatch x = new WardWatch();
        for (int what : new int[] {-1, 3, 9, 14, 19, 24, 29, 34, 40, Integer.MAX_VALUE, Integer.MIN_VALUE}) {
            Due.is("count(" + what + ")", x.count(what), -1);
        }
        for (int w = 0; w < 4; w++) {
            Due.tellLaws(x, w, "fine 7; lockup 9; power stop from 1 to 1;", 3);
            lieInWard(x, w);
            oweInWard(x, w);
            payInWard(x, w);
        }
        int[] chests = {7, 9, 11, 13};
        for (int w = 0; w < 4; w++) {
            Due.is("chest of " + w, x.count(10 + w), chests[w] - 5 * w);
            Due.is("lock-up of " + w, x.count(20 + w), w + 1);
            Due.is("latest year of " + w, x.count(30 + w), 1700 + w);
        }
        Due.is("houses", x.count(0), 4);
        Due.is("charges", x.count(1), 16);
        Due.is("bytes", x.count(2), 0);
        x.feed(0, 0, 0, 0, 0);
        x.end(13);
        Due.is("bytes", x.count(2), 13);
        Due.is("morning()", x.morning(), 10);
        Due.is("lock-up", x.count(23), 0);
        Due.is("charges stay", x.count(1), 16);
        Due.end();
    }

    private static void lieInWard(WardWatch x, int w) {
        for (int i = 0; i <= w; i++) {
            x.charge(w, 0, 1, false);
        }
    }

    private static void oweInWard(WardWatch x, int w) {
        for (int i = 0; i < w; i++) {
            x.charge(w, 0, 2, false);
        }
    }

    private static void payInWard(WardWatch x, int w) {
        Due.tellLaws(x, w, "fine " + (7 + 2 * w) + "; lockup 9;", 2);
        int h = x.house(w, 1670);
        x.would(h, 2);
        x.purse(h, 50);
        Due.is("fill", x.fill(w, 1700 + w), -1);
        Due.is("the chest behind a fine", x.count(10 + w), 7 + 2 * w - 5 * w);
    }
}
