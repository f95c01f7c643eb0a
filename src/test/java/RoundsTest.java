import java.util.ArrayList;
import java.util.HashMap;
import java.util.List;
import java.util.Map;
import java.util.Random;

/** Promises 7 and 8: rounds, round; against all ways to part a set, gone through in order of rows. */
public final class RoundsTest {
    private static final int FAR_OFF = 1000000;

    private final WardWatch x = new WardWatch();
    private final int[] within = new int[12];
    private final int[][] far = new int[12][12];
    private final Map<Integer, Integer> tours = new HashMap<>();
    private List<Integer> courts;
    private int[] bestRow;
    private int bestMen;
    private int bestSum;

    public static void main(String[] args) {
        wrongSets();
        latestThatToldANumber();
        rowBeforeFirstPart();
        firstWithin();
        keptWhenTheTownChanges();
        for (int seed = 0; seed < 250; seed++) {
            new RoundsTest().compare(new Random(seed), 1 + seed % 7);
        }
        for (int seed = 0; seed < 24; seed++) {
            new RoundsTest().compare(new Random(seed), 8 + seed % 3);
        }
        Due.end();
    }

    private static void wrongSets() {
        WardWatch x = new WardWatch();
        for (int set : new int[] {0, -1, 4096, 4097, Integer.MAX_VALUE, Integer.MIN_VALUE}) {
            Due.is("rounds(" + set + ")", x.rounds(set), -2);
        }
        Due.is("rounds of 12", x.rounds(4095), -3);
        Due.is("rounds of 11", x.rounds(2047), -3);
        Due.is("rounds of 10", x.rounds(1023), 10);
        Due.is("rounds of the last 10", x.rounds(4092), 10);
        Due.is("round(10)", x.round(10), -1);
        Due.is("round(12)", x.round(12), 0);
        Due.is("round(21)", x.round(21), 9);
        Due.is("round(39)", x.round(39), 0);
        Due.is("round(59)", x.round(59), 1 << 11);
        Due.is("round(0)", x.round(0), 0);
        for (int what : new int[] {-1, 1, 9, 22, 29, 40, 49, 60, 61, Integer.MAX_VALUE, Integer.MIN_VALUE}) {
            Due.is("round(" + what + ")", x.round(what), -9);
        }
    }

    private static void latestThatToldANumber() {
        WardWatch x = new WardWatch();
        x.way(0, 1, 5);
        Due.is("rounds(0)", x.rounds(0), -2);
        Due.is("round(0)", x.round(0), -9);
        Due.is("rounds(3)", x.rounds(3), 1);
        Due.is("rounds(4095)", x.rounds(4095), -3);
        Due.is("round(0)", x.round(0), 10);
        Due.is("rounds(0)", x.rounds(0), -2);
        Due.is("round(30)", x.round(30), 10);
        Due.is("round(31)", x.round(31), -9);
        Due.is("rounds(4)", x.rounds(4), 1);
        Due.is("round(0)", x.round(0), 0);
        Due.is("round(10)", x.round(10), -1);
        Due.is("round(50)", x.round(50), 4);
    }

    /** {0 4}{1 2}{3} comes ahead of {0 3}{1}{2 4} in rows, though man 0 would get court 3 there. */
    private static void rowBeforeFirstPart() {
        WardWatch x = new WardWatch();
        x.way(0, 4, 10);
        x.way(1, 2, 20);
        x.way(0, 3, 20);
        x.way(2, 4, 10);
        for (int c = 0; c < 5; c++) {
            x.court(c, 0, c == 4 ? 39 : 40);
        }
        Due.is("rounds(31)", x.rounds(31), 3);
        Due.is("round(0)", x.round(0), 60);
        menAre(x, 0, 1, 1, 2, 0);
        x.way(1, 2, -1);
        Due.is("rounds(31)", x.rounds(31), 3);
        Due.is("round(0)", x.round(0), 60);
        menAre(x, 0, 1, 2, 0, 2);
    }

    private static void menAre(WardWatch x, int... row) {
        for (int c = 0; c < row.length; c++) {
            Due.is("man of " + c, x.round(10 + c), row[c]);
        }
    }

    private static void firstWithin() {
        WardWatch x = new WardWatch();
        x.way(9, 10, 20);
        x.way(10, 11, 20);
        x.way(11, 9, 21);
        Due.is("61 minutes are above 60", x.rounds(7 << 9), 2);
        Due.is("round(0)", x.round(0), 40);
        x.way(11, 9, 20);
        Due.is("60 minutes are not", x.rounds(7 << 9), 1);
        Due.is("round(0)", x.round(0), 60);
    }

    private static void keptWhenTheTownChanges() {
        WardWatch x = new WardWatch();
        x.way(2, 3, 30);
        Due.is("rounds(12)", x.rounds(12), 1);
        x.court(2, 0, 59);
        x.way(2, 3, -1);
        Due.is("round(0)", x.round(0), 60);
        Due.is("round(50)", x.round(50), 12);
        x.way(2, 3, 30);
        Due.is("60 is above 59", x.rounds(12), 2);
        x.court(2, 0, 60);
        Due.is("60 is not above 60", x.rounds(12), 1);
    }

    private void compare(Random random, int size) {
        makeTown(random);
        courts = new ArrayList<>();
        int set = 0;
        while (courts.size() < size) {
            int c = random.nextInt(12);
            if ((set >> c & 1) == 0) {
                set |= 1 << c;
                courts.add(c);
            }
        }
        courts.sort(null);
        bestMen = FAR_OFF;
        part(new int[size], 0, 0);
        Due.is("rounds(" + set + ")", x.rounds(set), bestMen);
        Due.is("sum of " + set, x.round(0), bestSum);
        for (int c = 0; c < 12; c++) {
            int at = courts.indexOf(c);
            Due.is("man of " + c + " in " + set, x.round(10 + c), at < 0 ? -1 : bestRow[at]);
        }
        for (int m = 0; m < bestMen; m++) {
            Due.is("length of man " + m, x.round(30 + m), tour(bitsOf(bestRow, m)));
            Due.is("courts of man " + m, x.round(50 + m), bitsOf(bestRow, m));
        }
        Due.is("length of no man", x.round(30 + bestMen), -9);
        Due.is("courts of no man", x.round(50 + bestMen), -9);
    }

    private void makeTown(Random random) {
        int few = 1 + random.nextInt(5);
        int ways = 5 + random.nextInt(40);
        int most = 20 + random.nextInt(300);
        for (int i = 0; i < ways; i++) {
            int c = random.nextInt(12);
            int d = random.nextInt(12);
            // Few lengths make many plans alike, so that rows decide.
            x.way(c, d, 1 + random.nextInt(few) * 7);
        }
        for (int c = 0; c < 12; c++) {
            within[c] = 1 + random.nextInt(most);
            x.court(c, random.nextInt(4), within[c]);
            for (int d = 0; d < 12; d++) {
                int least = x.far(c, d);
                far[c][d] = least < 0 ? FAR_OFF : least;
            }
        }
    }

    private void part(int[] row, int at, int men) {
        if (at == row.length) {
            weigh(row, men);
            return;
        }
        for (int m = 0; m <= men; m++) {
            row[at] = m;
            part(row, at + 1, Math.max(men, m + 1));
        }
    }

    private void weigh(int[] row, int men) {
        if (men > bestMen) {
            return;
        }
        int sum = 0;
        for (int m = 0; m < men; m++) {
            int bits = bitsOf(row, m);
            int length = tour(bits);
            for (int c = 0; c < 12; c++) {
                if ((bits >> c & 1) == 1 && length > within[c]) {
                    return;
                }
            }
            sum += length;
        }
        if (men < bestMen || sum < bestSum) {
            bestMen = men;
            bestSum = sum;
            bestRow = row.clone();
        }
    }

    private int bitsOf(int[] row, int man) {
        int bits = 0;
        for (int i = 0; i < row.length; i++) {
            bits |= row[i] == man ? 1 << courts.get(i) : 0;
        }
        return bits;
    }

    private int tour(int bits) {
        Integer known = tours.get(bits);
        if (known == null) {
            int first = Integer.numberOfTrailingZeros(bits);
            known = goOn(first, first, bits & ~(1 << first), 0, FAR_OFF);
            tours.put(bits, known);
        }
        return known;
    }

    /** All orders, one by one, but those that are longer already. */
    private int goOn(int first, int at, int left, int gone, int best) {
        if (gone >= best) {
            return best;
        }
        if (left == 0) {
            return Math.min(best, gone + far[at][first]);
        }
        int least = best;
        for (int c = 0; c < 12; c++) {
            if ((left >> c & 1) == 1) {
                least = goOn(first, c, left & ~(1 << c), gone + far[at][c], least);
            }
        }
        return least;
    }
}
