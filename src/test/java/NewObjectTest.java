/** Promise 1: no ways, no laws told, no houses; and what else a call answers at first. */
public final class NewObjectTest {
    private static final int[] FIRST_LAWS = {21, 60, 7, 100, -1, -1, 0, 4, 0};

    public static void main(String[] args) {
        WardWatch x = new WardWatch();
        noWays(x);
        noLaws(x);
        noHouses(x);
        nothingLatest(x);
        Due.is("end(0)", x.end(0), 0);
        Due.is("end(1)", x.end(1), -1);
        ownObjects();
        Due.end();
    }

    private static void noWays(WardWatch x) {
        for (int c = 0; c < 12; c++) {
            for (int d = 0; d < 12; d++) {
                Due.is("far(" + c + ", " + d + ")", x.far(c, d), c == d ? 0 : -1);
            }
            Due.is("cry(" + c + ", 999)", x.cry(c, 999), 1 << c);
        }
        Due.is("rounds(5)", new WardWatch().rounds(5), 2);
    }

    private static void noLaws(WardWatch x) {
        for (int w = 0; w < 4; w++) {
            for (int what = 0; what <= 8; what++) {
                Due.is("law(" + w + ", " + what + ")", x.law(w, what), FIRST_LAWS[what]);
            }
            for (int hour = 0; hour < 24; hour++) {
                Due.is("may(" + w + ", 0, " + hour + ")", x.may(w, 0, hour, true), 0);
            }
        }
    }

    private static void noHouses(WardWatch x) {
        Due.is("about(0, 0)", x.about(0, 0), -1);
        Due.is("would(0, 0)", x.would(0, 0), -2);
        Due.is("purse(0, 1)", x.purse(0, 1), -2);
        for (int what = 0; what <= 2; what++) {
            Due.is("count(" + what + ")", x.count(what), 0);
        }
        for (int w = 0; w < 4; w++) {
            Due.is("chest of " + w, x.count(10 + w), 0);
            Due.is("lock-up of " + w, x.count(20 + w), 0);
            Due.is("latest year of " + w, x.count(30 + w), -1);
            Due.is("year of " + w, x.year(w, 1600, 0), -9);
            Due.is("year NONE of " + w, x.year(w, -1, 0), -9);
        }
    }

    private static void nothingLatest(WardWatch x) {
        Due.is("fault(0)", x.fault(0), 0);
        Due.is("fault(1)", x.fault(1), -1);
        for (int what : new int[] {0, 10, 21, 30, 50}) {
            Due.is("round(" + what + ")", x.round(what), -9);
        }
        Due.is("fled(0)", x.fled(0), -9);
        Due.is("fled(1)", x.fled(1), -9);
        Due.is("charged(0, 0)", x.charged(0, 0), -1);
        Due.is("morning()", x.morning(), 0);
    }

    private static void ownObjects() {
        WardWatch x = new WardWatch();
        WardWatch y = new WardWatch();
        x.way(0, 1, 3);
        x.house(0, 1600);
        Due.tellLaws(x, 0, "leave 1;", 1);
        Due.is("far of the other object", y.far(0, 1), -1);
        Due.is("houses of the other object", y.count(0), 0);
        Due.is("laws of the other object", y.law(0, 2), 7);
    }
}
