import java.util.ArrayList;
import java.util.List;
import java.util.Random;

/** Promises 20 to 22: charge, charged, morning. */
public final class NightsTest {
    private static final int[] NO_WARDS = {-1, 4, Integer.MAX_VALUE, Integer.MIN_VALUE};
    private static final String ALWAYS = "power stop from 0 to 23;";

    public static void main(String[] args) {
        wrongCharges();
        full();
        unlawful();
        firstWithPlaceAlone();
        roundTheWards();
        cryForTheOther();
        mornings();
        lawsThatShrink();
        for (int seed = 0; seed < 200; seed++) {
            new NightsTest().randomNights(new Random(seed));
        }
        Due.end();
    }

    private static void isCharge(WardWatch x, int k, int... due) {
        for (int what = 0; what < due.length; what++) {
            Due.is("charged(" + k + ", " + what + ")", x.charged(k, what), due[what]);
        }
    }

    private static void wrongCharges() {
        WardWatch x = new WardWatch();
        for (int ward : NO_WARDS) {
            Due.is("charge(" + ward + ", 0, 0)", x.charge(ward, 0, 0, true), -2);
        }
        for (int power : new int[] {-1, 3, Integer.MAX_VALUE, Integer.MIN_VALUE}) {
            Due.is("charge(0, " + power + ", 0)", x.charge(0, power, 0, true), -2);
        }
        for (int hour : new int[] {-1, 24, Integer.MAX_VALUE, Integer.MIN_VALUE}) {
            Due.is("charge(0, 0, " + hour + ")", x.charge(0, 0, hour, true), -2);
        }
        Due.is("count(1)", x.count(1), 0);
        Due.is("count(10)", x.count(10), 0);
        Due.is("charge(3, 2, 23)", x.charge(3, 2, 23, true), 0);
        for (int what : new int[] {-1, 5, Integer.MAX_VALUE, Integer.MIN_VALUE}) {
            Due.is("charged(0, " + what + ")", x.charged(0, what), -1);
        }
        for (int k : new int[] {-1, 1, 100, Integer.MAX_VALUE, Integer.MIN_VALUE}) {
            Due.is("charged(" + k + ", 0)", x.charged(k, 0), -1);
        }
    }

    private static void full() {
        WardWatch x = new WardWatch();
        for (int k = 0; k < 100; k++) {
            Due.is("charge " + k, x.charge(k % 4, k % 3, k % 24, false), k);
            Due.is("count(1)", x.count(1), k + 1);
        }
        Due.is("the 101st", x.charge(0, 0, 0, false), -3);
        Due.is("RANGE comes ahead of FULL", x.charge(0, 0, 24, false), -2);
        Due.is("count(1)", x.count(1), 100);
        Due.is("FULL owes nothing", x.count(10), -125);
        isCharge(x, 99, 3, 0, 3, 1, -1);
        Due.is("charged(100, 0)", x.charged(100, 0), -1);
        Due.is("morning()", x.morning(), 0);
        Due.is("a morning makes no room", x.charge(0, 0, 0, false), -3);
    }

    private static void unlawful() {
        WardWatch x = new WardWatch();
        Due.tellLaws(x, 2, "power hold from 22 to 4 cry;", 1);
        Due.is("cried", x.charge(2, 1, 4, true), 0);
        Due.is("not cried", x.charge(2, 1, 4, false), 1);
        Due.is("another hour", x.charge(2, 1, 5, true), 2);
        Due.is("another power", x.charge(2, 0, 4, true), 3);
        Due.is("another ward", x.charge(1, 1, 4, true), 4);
        isCharge(x, 0, 2, 1, 4, 0, 2);
        isCharge(x, 1, 2, 1, 4, 1, -1);
        isCharge(x, 2, 2, 1, 5, 1, -1);
        isCharge(x, 3, 2, 0, 4, 1, -1);
        isCharge(x, 4, 1, 1, 4, 1, -1);
        Due.is("count(12)", x.count(12), -15);
        Due.is("count(11)", x.count(11), -5);
        Due.is("count(22)", x.count(22), 1);
        Due.tellLaws(x, 1, "power hold from 4 to 4;", 1);
        isCharge(x, 4, 1, 1, 4, 1, -1);
    }

    /** The first ward that has place decides, though one behind it would let them come. */
    private static void firstWithPlaceAlone() {
        WardWatch x = new WardWatch();
        Due.tellLaws(x, 0, ALWAYS + "lockup 0;", 2);
        Due.tellLaws(x, 2, "follow 9;", 1);
        Due.is("charge", x.charge(0, 0, 0, true), 0);
        isCharge(x, 0, 0, 0, 0, 2, -1);
        Due.tellLaws(x, 1, "lockup 0;", 1);
        Due.is("charge", x.charge(0, 0, 0, false), 1);
        isCharge(x, 1, 0, 0, 0, 0, 2);
        Due.is("count(22)", x.count(22), 1);
        Due.is("LET GO owes nothing", x.count(10), 0);
    }

    private static void roundTheWards() {
        WardWatch x = new WardWatch();
        for (int w = 0; w < 4; w++) {
            Due.tellLaws(x, w, ALWAYS + "follow 0; lockup 1;", 3);
        }
        int[] where = {2, 3, 0, 1, -1};
        for (int k = 0; k < where.length; k++) {
            Due.is("charge", x.charge(2, 0, 12, false), k);
            isCharge(x, k, 2, 0, 12, where[k] < 0 ? 2 : 0, where[k]);
        }
        Due.is("morning()", x.morning(), 4);
        Due.is("charge", x.charge(3, 0, 12, false), 5);
        isCharge(x, 5, 3, 0, 12, 0, 3);
        Due.is("charge", x.charge(3, 0, 12, false), 6);
        isCharge(x, 6, 3, 0, 12, 0, 0);
    }

    private static void cryForTheOther() {
        WardWatch x = new WardWatch();
        Due.tellLaws(x, 0, ALWAYS + "lockup 0; follow 5 cry;", 3);
        Due.tellLaws(x, 1, "follow 5 cry;", 1);
        Due.is("not cried", x.charge(0, 0, 0, false), 0);
        isCharge(x, 0, 0, 0, 0, 2, -1);
        Due.is("cried", x.charge(0, 0, 0, true), 1);
        isCharge(x, 1, 0, 0, 0, 0, 1);
        Due.tellLaws(x, 0, ALWAYS + "lockup 1; follow 5 cry;", 3);
        Due.is("its own asks for no cry", x.charge(0, 0, 0, false), 2);
        isCharge(x, 2, 0, 0, 0, 0, 0);
        Due.tellLaws(x, 0, ALWAYS + "lockup 2;", 2);
        Due.is("nor for follow", x.charge(0, 0, 0, false), 3);
        isCharge(x, 3, 0, 0, 0, 0, 0);
    }

    private static void mornings() {
        WardWatch x = new WardWatch();
        Due.tellLaws(x, 0, ALWAYS + "lockup 1;", 2);
        Due.tellLaws(x, 1, "lockup 1; follow 1;", 2);
        for (int k = 0; k < 3; k++) {
            x.charge(0, 0, 0, false);
        }
        x.charge(1, 0, 0, false);
        Due.is("morning()", x.morning(), 2);
        isCharge(x, 0, 0, 0, 0, 3, 0);
        isCharge(x, 1, 0, 0, 0, 3, 1);
        isCharge(x, 2, 0, 0, 0, 2, -1);
        isCharge(x, 3, 1, 0, 0, 1, -1);
        Due.is("count(20)", x.count(20), 0);
        Due.is("count(21)", x.count(21), 0);
        Due.is("morning() again", x.morning(), 0);
        isCharge(x, 0, 0, 0, 0, 3, 0);
        Due.is("there is place again", x.charge(0, 0, 0, false), 4);
        isCharge(x, 4, 0, 0, 0, 0, 0);
        Due.is("morning()", x.morning(), 1);
    }

    private static void lawsThatShrink() {
        WardWatch x = new WardWatch();
        Due.tellLaws(x, 3, ALWAYS, 1);
        for (int k = 0; k < 4; k++) {
            x.charge(3, 0, 0, false);
        }
        Due.tellLaws(x, 3, ALWAYS + "lockup 2;", 2);
        Due.is("they lie on", x.count(23), 4);
        x.charge(3, 0, 0, false);
        isCharge(x, 4, 3, 0, 0, 2, -1);
        Due.is("morning()", x.morning(), 4);
    }

    // ---- random nights against lists of those who lie

    private final WardWatch x = new WardWatch();
    private final int[] lockup = {4, 4, 4, 4};
    private final int[] follow = {0, 0, 0, 0};
    private final int[] power = {-1, -1, -1, -1};
    private final int[] chest = new int[4];
    private final List<List<Integer>> lying = new ArrayList<>();
    private final List<int[]> charges = new ArrayList<>();

    private void randomNights(Random random) {
        for (int w = 0; w < 4; w++) {
            lying.add(new ArrayList<>());
        }
        for (int call = 0; call < 60; call++) {
            int w = random.nextInt(4);
            int kind = random.nextInt(12);
            if (kind < 2) {
                randomLaws(random, w);
            } else if (kind == 2) {
                Due.is("morning()", x.morning(), lying.stream().mapToInt(List::size).sum());
                lying.forEach(row -> row.forEach(k -> charges.get(k)[3] = 3));
                lying.forEach(List::clear);
            } else {
                randomCharge(w, random.nextInt(3), random.nextInt(24), random.nextBoolean());
            }
        }
        for (int k = 0; k < charges.size(); k++) {
            isCharge(x, k, charges.get(k));
        }
        for (int w = 0; w < 4; w++) {
            Due.is("chest of " + w, x.count(10 + w), chest[w]);
            Due.is("lock-up of " + w, x.count(20 + w), lying.get(w).size());
        }
    }

    private void randomLaws(Random random, int w) {
        lockup[w] = random.nextInt(4);
        follow[w] = random.nextInt(3);
        power[w] = random.nextInt(3);
        Due.tellLaws(x, w, "lockup " + lockup[w] + ";power " + new String[] {"stop", "hold", "enter"}[power[w]]
                + " from 0 to 23;" + new String[] {"", "follow 1;", "follow 1 cry;"}[follow[w]], follow[w] == 0 ? 2 : 3);
    }

    private void randomCharge(int w, int what, int hour, boolean cried) {
        int[] due = {w, what, hour, 2, -1};
        if (power[w] != what) {
            due[3] = 1;
            chest[w] -= 5;
        } else {
            int where = w;
            while (where < w + 4 && lying.get(where % 4).size() >= lockup[where % 4]) {
                where++;
            }
            boolean may = where == w || where < w + 4 && (follow[where % 4] == 1 || follow[where % 4] == 2 && cried);
            if (may) {
                due[3] = 0;
                due[4] = where % 4;
                lying.get(where % 4).add(charges.size());
            }
        }
        Due.is("charge", x.charge(w, what, hour, cried), charges.size());
        charges.add(due);
    }
}
