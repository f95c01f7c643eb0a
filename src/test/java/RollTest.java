import java.util.ArrayList;
import java.util.HashMap;
import java.util.List;
import java.util.Map;
import java.util.Random;

/** Promises 14 to 19: house, purse, would, fill, year, about. */
public final class RollTest {
    private static final int[] NO_WARDS = {-1, 4, Integer.MAX_VALUE, Integer.MIN_VALUE};

    public static void main(String[] args) {
        houses();
        purses();
        wishes();
        whichYear();
        ages();
        leaves();
        turns();
        hiring();
        paying();
        payingNobodyLeft();
        asks();
        for (int seed = 0; seed < 300; seed++) {
            new RollTest().randomRoll(new Random(seed));
        }
        Due.end();
    }

    private static void houses() {
        WardWatch x = new WardWatch();
        for (int ward : NO_WARDS) {
            Due.is("house(" + ward + ", 1600)", x.house(ward, 1600), -2);
        }
        for (int born : new int[] {1499, 1800, 0, Integer.MAX_VALUE, Integer.MIN_VALUE}) {
            Due.is("house(0, " + born + ")", x.house(0, born), -2);
        }
        Due.is("count(0)", x.count(0), 0);
        for (int h = 0; h < 60; h++) {
            Due.is("house " + h, x.house(h % 4, h % 2 == 0 ? 1500 : 1799), h);
            Due.is("count(0)", x.count(0), h + 1);
        }
        Due.is("the 61st house", x.house(0, 1600), -3);
        Due.is("RANGE comes ahead of FULL", x.house(4, 1600), -2);
        Due.is("count(0)", x.count(0), 60);
        Due.is("about(59, 0)", x.about(59, 0), 3);
        Due.is("about(59, 1)", x.about(59, 1), 1799);
        Due.is("about(60, 0)", x.about(60, 0), -1);
    }

    private static void purses() {
        WardWatch x = new WardWatch();
        x.house(0, 1600);
        Due.is("purse(0, 0)", x.purse(0, 0), -2);
        Due.is("purse(0, -1)", x.purse(0, -1), -2);
        Due.is("purse(0, 100001)", x.purse(0, 100001), -2);
        Due.is("purse(0, most)", x.purse(0, Integer.MAX_VALUE), -2);
        Due.is("purse(1, 1)", x.purse(1, 1), -2);
        Due.is("purse(-1, 1)", x.purse(-1, 1), -2);
        Due.is("purse(0, 1)", x.purse(0, 1), 1);
        for (int i = 1; i <= 9; i++) {
            Due.is("purse(0, 100000)", x.purse(0, 100000), i * 100000 + 1);
        }
        Due.is("above a million", x.purse(0, 100000), -2);
        Due.is("about(0, 2)", x.about(0, 2), 900001);
        Due.is("a million", x.purse(0, 99999), 1000000);
        Due.is("above a million", x.purse(0, 1), -2);
    }

    private static void wishes() {
        WardWatch x = new WardWatch();
        x.house(2, 1600);
        Due.is("about(0, 3)", x.about(0, 3), 0);
        Due.is("would(0, 2)", x.would(0, 2), 0);
        Due.is("would(0, 1)", x.would(0, 1), 2);
        for (int what : new int[] {3, -1, Integer.MAX_VALUE, Integer.MIN_VALUE}) {
            Due.is("would(0, " + what + ")", x.would(0, what), -2);
        }
        for (int h : new int[] {1, -1, 60, Integer.MAX_VALUE, Integer.MIN_VALUE}) {
            Due.is("would(" + h + ", 1)", x.would(h, 1), -2);
        }
        Due.is("about(0, 3)", x.about(0, 3), 1);
        Due.is("would(0, 0)", x.would(0, 0), 1);
    }

    private static void whichYear() {
        WardWatch x = new WardWatch();
        for (int ward : NO_WARDS) {
            Due.is("fill(" + ward + ", 1600)", x.fill(ward, 1600), -2);
        }
        for (int year : new int[] {-1, 0, 1599, 1800, Integer.MAX_VALUE, Integer.MIN_VALUE}) {
            Due.is("fill(0, " + year + ") first", x.fill(0, year), -2);
        }
        Due.is("count(30)", x.count(30), -1);
        Due.is("fill(0, 1797)", x.fill(0, 1797), -1);
        for (int year : new int[] {1796, 1797, 1799, 1800, 0, -2}) {
            Due.is("fill(0, " + year + ") behind 1797", x.fill(0, year), -2);
        }
        Due.is("count(30)", x.count(30), 1797);
        Due.is("fill(0, 1798)", x.fill(0, 1798), -1);
        Due.is("fill(0, NONE)", x.fill(0, -1), -1);
        Due.is("count(30)", x.count(30), 1799);
        Due.is("fill(0, NONE) behind 1799", x.fill(0, -1), -2);
        Due.is("fill(0, 1800)", x.fill(0, 1800), -2);
        Due.is("fill(1, 1600)", x.fill(1, 1600), -1);
        Due.is("count(31)", x.count(31), 1600);
        Due.is("year(0, 1796, 0)", x.year(0, 1796, 0), -9);
        Due.is("year(0, 1797, 0)", x.year(0, 1797, 0), -1);
        Due.is("year(0, 1797, 1)", x.year(0, 1797, 1), 0);
        Due.is("year(0, 1797, 2)", x.year(0, 1797, 2), 0);
        Due.is("year(0, 1800, 0)", x.year(0, 1800, 0), -9);
        Due.is("year(1, 1601, 0)", x.year(1, 1601, 0), -9);
        Due.is("year(1, 1799, 0)", x.year(1, 1799, 0), -9);
    }

    private static void ages() {
        int[] born = {1619, 1620, 1640, 1641};
        int[] due = {-1, 0, 0, -1};
        for (int i = 0; i < born.length; i++) {
            WardWatch x = new WardWatch();
            Due.tellLaws(x, 0, "age 10 30;", 1);
            x.house(0, born[i]);
            Due.is("born " + born[i], x.fill(0, 1650), due[i]);
        }
        WardWatch x = new WardWatch();
        Due.tellLaws(x, 0, "age 0 99;", 1);
        x.house(0, 1651);
        x.house(0, 1650);
        Due.is("not born yet", x.fill(0, 1650), 1);
    }

    private static void leaves() {
        WardWatch x = new WardWatch();
        x.house(0, 1620);
        Due.is("fill(0, 1650)", x.fill(0, 1650), 0);
        for (int year = 1651; year <= 1657; year++) {
            Due.is("on leave in " + year, x.fill(0, year), -1);
        }
        Due.is("no more in 1658", x.fill(0, -1), 0);
        Due.tellLaws(x, 0, "leave 0;", 1);
        Due.is("without leave", x.fill(0, -1), 0);
        Due.tellLaws(x, 0, "leave 2;", 1);
        Due.is("1660", x.fill(0, -1), -1);
        Due.is("1661", x.fill(0, -1), -1);
        Due.is("1662", x.fill(0, -1), 0);
        Due.is("about(0, 4)", x.about(0, 4), 1662);
        Due.is("about(0, 5)", x.about(0, 5), 4);
    }

    private static void turns() {
        WardWatch x = new WardWatch();
        Due.tellLaws(x, 1, "leave 0;", 1);
        x.house(0, 1620);
        x.house(1, 1620);
        x.house(1, 1649);
        x.house(1, 1620);
        Due.is("the ward's first", x.fill(1, 1650), 1);
        Due.is("the next of age", x.fill(1, -1), 3);
        x.house(2, 1620);
        x.house(1, 1620);
        Due.is("a new one behind the last", x.fill(1, -1), 5);
        Due.is("the first again", x.fill(1, -1), 1);
        Due.is("another ward's own turn", x.fill(0, 1650), 0);
        Due.tellLaws(x, 1, "leave 0; age 99 99;", 2);
        Due.is("nobody", x.fill(1, -1), -1);
        Due.tellLaws(x, 1, "leave 0;", 1);
        Due.is("the turn stays behind nobody", x.fill(1, -1), 3);
    }

    private static void hiring() {
        WardWatch x = new WardWatch();
        Due.tellLaws(x, 0, "leave 0;", 1);
        x.house(0, 1620);
        x.would(0, 1);
        x.purse(0, 100);
        Due.is("none may be hired", x.fill(0, 1650), 0);
        Due.is("year(0, 1650, 1)", x.year(0, 1650, 1), 0);
        Due.tellLaws(x, 0, "leave 0; hire 60;", 2);
        Due.is("hires", x.fill(0, -1), 0);
        Due.is("year(0, 1651, 1)", x.year(0, 1651, 1), 1);
        Due.is("about(0, 2)", x.about(0, 2), 40);
        Due.is("can't", x.fill(0, -1), 0);
        Due.is("year(0, 1652, 1)", x.year(0, 1652, 1), 0);
        Due.is("about(0, 2)", x.about(0, 2), 40);
        x.purse(0, 20);
        Due.is("just enough", x.fill(0, -1), 0);
        Due.is("year(0, 1653, 1)", x.year(0, 1653, 1), 1);
        Due.is("about(0, 2)", x.about(0, 2), 0);
        Due.is("about(0, 5)", x.about(0, 5), 4);
        Due.is("no chest", x.count(10), 0);
        Due.tellLaws(x, 0, "leave 0; hire 0;", 2);
        Due.is("for nothing", x.fill(0, -1), 0);
        Due.is("year(0, 1654, 1)", x.year(0, 1654, 1), 1);
        Due.is("an older year", x.year(0, 1652, 1), 0);
    }

    private static void paying() {
        WardWatch x = new WardWatch();
        for (int h = 0; h < 4; h++) {
            x.house(3, 1620);
            x.would(h, 2);
            x.purse(h, h == 2 ? 99 : 100);
        }
        Due.is("the third can't pay", x.fill(3, 1650), 2);
        Due.is("year(3, 1650, 0)", x.year(3, 1650, 0), 2);
        Due.is("year(3, 1650, 1)", x.year(3, 1650, 1), 0);
        Due.is("year(3, 1650, 2)", x.year(3, 1650, 2), 2);
        Due.is("count(13)", x.count(13), 200);
        Due.is("about(0, 2)", x.about(0, 2), 0);
        Due.is("about(0, 4)", x.about(0, 4), 1650);
        Due.is("about(1, 5)", x.about(1, 5), 1);
        Due.is("about(2, 2)", x.about(2, 2), 99);
        Due.is("about(3, 2)", x.about(3, 2), 100);
        Due.is("the others are on leave", x.fill(3, 1651), -1);
        Due.is("year(3, 1651, 2)", x.year(3, 1651, 2), 1);
        Due.is("count(13)", x.count(13), 300);
        Due.is("who paid had the turn", x.fill(3, 1652), -1);
    }

    private static void payingNobodyLeft() {
        WardWatch x = new WardWatch();
        Due.tellLaws(x, 0, "leave 0; fine 0;", 2);
        x.house(0, 1620);
        x.house(0, 1620);
        x.would(0, 2);
        x.would(1, 2);
        Due.is("both pay nothing, once", x.fill(0, 1650), -1);
        Due.is("year(0, 1650, 2)", x.year(0, 1650, 2), 2);
        Due.is("year(0, 1650, 0)", x.year(0, 1650, 0), -1);
        Due.is("about(0, 5)", x.about(0, 5), 1);
        x.would(0, 0);
        x.would(1, 0);
        Due.is("behind the last that paid", x.fill(0, -1), 0);
        x.would(1, 2);
        Due.is("one pays, the other serves again", x.fill(0, -1), 0);
        Due.is("behind the one that served", x.fill(0, -1), 0);
        Due.is("year(0, 1653, 2)", x.year(0, 1653, 2), 1);
    }

    private static void asks() {
        WardWatch x = new WardWatch();
        x.house(1, 1620);
        Due.is("about(0, 4)", x.about(0, 4), -1);
        Due.is("about(0, 5)", x.about(0, 5), 0);
        for (int what : new int[] {-1, 6, Integer.MAX_VALUE, Integer.MIN_VALUE}) {
            Due.is("about(0, " + what + ")", x.about(0, what), -1);
        }
        for (int h : new int[] {-1, 1, Integer.MAX_VALUE, Integer.MIN_VALUE}) {
            Due.is("about(" + h + ", 0)", x.about(h, 0), -1);
        }
        x.fill(1, 1650);
        for (int ward : NO_WARDS) {
            Due.is("year(" + ward + ", 1650, 0)", x.year(ward, 1650, 0), -9);
        }
        for (int year : new int[] {-1, 0, 1649, 1651, Integer.MAX_VALUE, Integer.MIN_VALUE}) {
            Due.is("year(1, " + year + ", 0)", x.year(1, year, 0), -9);
        }
        for (int what : new int[] {-1, 3, Integer.MAX_VALUE, Integer.MIN_VALUE}) {
            Due.is("year(1, 1650, " + what + ")", x.year(1, 1650, what), -9);
        }
    }

    // ---- random rolls against houses in a queue

    private final WardWatch x = new WardWatch();
    private final List<int[]> houses = new ArrayList<>();
    private final int[][] laws = new int[4][];
    private final int[] chest = new int[4];
    private final int[] latest = new int[4];
    private final int[] turn = {-1, -1, -1, -1};
    private final Map<Integer, int[]> years = new HashMap<>();
    private static final int WARD = 0;
    private static final int BORN = 1;
    private static final int PURSE = 2;
    private static final int WOULD = 3;
    private static final int LAST = 4;
    private static final int TIMES = 5;

    private void randomRoll(Random random) {
        for (int w = 0; w < 4; w++) {
            randomLaws(random, w);
        }
        for (int call = 0; call < 90; call++) {
            int w = random.nextInt(2);
            switch (random.nextInt(8)) {
                case 0: case 1:
                    randomHouse(random, w);
                    break;
                case 2:
                    if (random.nextInt(4) == 0) {
                        randomLaws(random, w);
                    }
                    break;
                case 3: case 4:
                    randomWish(random);
                    break;
                default:
                    randomYear(random, w);
                    break;
            }
        }
        compareAll();
    }

    private void randomLaws(Random random, int w) {
        int from = 15 + random.nextInt(15);
        laws[w] = new int[] {from, from + random.nextInt(40), random.nextInt(6), random.nextInt(50),
            random.nextInt(3) == 0 ? -1 : random.nextInt(60)};
        Due.tellLaws(x, w, "age " + from + " " + laws[w][1] + ";leave " + laws[w][2] + ";fine " + laws[w][3] + ";"
                + (laws[w][4] < 0 ? "" : "hire " + laws[w][4] + ";"), laws[w][4] < 0 ? 3 : 4);
    }

    private void randomHouse(Random random, int w) {
        int born = 1570 + random.nextInt(90);
        if (houses.size() < 60) {
            Due.is("house", x.house(w, born), houses.size());
            houses.add(new int[] {w, born, 0, 0, -1, 0});
        }
    }

    private void randomWish(Random random) {
        if (!houses.isEmpty()) {
            int h = random.nextInt(houses.size());
            int what = random.nextInt(3);
            Due.is("would", x.would(h, what), houses.get(h)[WOULD]);
            houses.get(h)[WOULD] = what;
            int pence = 1 + random.nextInt(60);
            houses.get(h)[PURSE] += pence;
            Due.is("purse", x.purse(h, pence), houses.get(h)[PURSE]);
        }
    }

    private void randomYear(Random random, int w) {
        boolean isFirst = latest[w] == 0;
        int year = isFirst ? 1600 + random.nextInt(30) : latest[w] + 1;
        int told = isFirst || random.nextBoolean() ? year : -1;
        Due.is("fill(" + w + ", " + told + ")", x.fill(w, told), serve(w, year));
        latest[w] = year;
    }

    /** Those behind the latest turn stand first, then the others up to it. */
    private List<Integer> queue(int w) {
        List<Integer> queue = new ArrayList<>();
        for (int h = turn[w] + 1; h < houses.size(); h++) {
            queue.add(h);
        }
        for (int h = 0; h <= turn[w]; h++) {
            queue.add(h);
        }
        queue.removeIf(h -> houses.get(h)[WARD] != w);
        return queue;
    }

    private int serve(int w, int year) {
        int[] of = {-1, 0, 0};
        years.put(w * 10000 + year, of);
        for (int h : queue(w)) {
            int[] house = houses.get(h);
            int age = year - house[BORN];
            if (age < laws[w][0] || age > laws[w][1] || house[LAST] >= 0 && house[LAST] + laws[w][2] >= year) {
                continue;
            }
            house[LAST] = year;
            house[TIMES]++;
            turn[w] = h;
            if (house[WOULD] == 2 && house[PURSE] >= laws[w][3]) {
                house[PURSE] -= laws[w][3];
                chest[w] += laws[w][3];
                of[2]++;
                continue;
            }
            of[0] = h;
            if (house[WOULD] == 1 && laws[w][4] >= 0 && house[PURSE] >= laws[w][4]) {
                house[PURSE] -= laws[w][4];
                of[1] = 1;
            }
            return h;
        }
        return -1;
    }

    private void compareAll() {
        for (int h = 0; h < houses.size(); h++) {
            for (int what = WARD; what <= TIMES; what++) {
                Due.is("about(" + h + ", " + what + ")", x.about(h, what), houses.get(h)[what]);
            }
        }
        for (int w = 0; w < 4; w++) {
            Due.is("chest of " + w, x.count(10 + w), chest[w]);
            Due.is("latest of " + w, x.count(30 + w), latest[w] == 0 ? -1 : latest[w]);
        }
        for (Map.Entry<Integer, int[]> entry : years.entrySet()) {
            for (int what = 0; what < 3; what++) {
                int w = entry.getKey() / 10000;
                int year = entry.getKey() % 10000;
                Due.is("year(" + w + ", " + year + ", " + what + ")", x.year(w, year, what), entry.getValue()[what]);
            }
        }
    }
}
