import java.util.Random;

/** Promises 4, 5, 6 and 9: court, way, far, cry. */
public final class CourtsTest {
    private static final int[] NO_COURTS = {-1, 12, 100, Integer.MAX_VALUE, Integer.MIN_VALUE};

    public static void main(String[] args) {
        courts();
        ways();
        fars();
        cries();
        longestChain();
        for (int seed = 0; seed < 20; seed++) {
            randomTown(new Random(seed));
        }
        Due.end();
    }

    private static void courts() {
        WardWatch x = new WardWatch();
        for (int c : NO_COURTS) {
            Due.is("court(" + c + ", 0, 60)", x.court(c, 0, 60), -2);
        }
        for (int ward : new int[] {-1, 4, Integer.MAX_VALUE, Integer.MIN_VALUE}) {
            Due.is("court(0, " + ward + ", 60)", x.court(0, ward, 60), -2);
        }
        for (int within : new int[] {0, -1, 1000, Integer.MAX_VALUE, Integer.MIN_VALUE}) {
            Due.is("court(0, 0, " + within + ")", x.court(0, 0, within), -2);
        }
        for (int c = 0; c < 12; c++) {
            Due.is("court(" + c + ")", x.court(c, c % 4, c == 0 ? 1 : 999), 1);
        }
        x.way(0, 4, 1);
        Due.is("a round of 2 minutes is not within 1", x.rounds(17), 2);
        Due.is("court(0, 0, 2)", x.court(0, 0, 2), 1);
        Due.is("it is within 2", x.rounds(17), 1);
        Due.is("court(0, 4, 1)", x.court(0, 4, 1), -2);
        Due.is("RANGE changes nothing", x.rounds(17), 1);
    }

    private static void ways() {
        WardWatch x = new WardWatch();
        for (int c : NO_COURTS) {
            Due.is("way(" + c + ", 0, 5)", x.way(c, 0, 5), -2);
            Due.is("way(0, " + c + ", 5)", x.way(0, c, 5), -2);
        }
        for (int minutes : new int[] {0, -2, -3, 100, Integer.MAX_VALUE, Integer.MIN_VALUE}) {
            Due.is("way(0, 1, " + minutes + ")", x.way(0, 1, minutes), -2);
        }
        Due.is("way(3, 3, 5)", x.way(3, 3, 5), -2);
        Due.is("way(3, 3, NONE)", x.way(3, 3, -1), -2);
        Due.is("way(0, 1, NONE)", x.way(0, 1, -1), -1);
        Due.is("way(0, 1, 1)", x.way(0, 1, 1), -1);
        Due.is("way(1, 0, 99)", x.way(1, 0, 99), 1);
        Due.is("far(0, 1)", x.far(0, 1), 99);
        Due.is("way(0, 1, 100)", x.way(0, 1, 100), -2);
        Due.is("way(0, 1, NONE)", x.way(0, 1, -1), 99);
        Due.is("far(1, 0)", x.far(1, 0), -1);
        Due.is("way(1, 0, NONE)", x.way(1, 0, -1), -1);
    }

    private static void fars() {
        WardWatch x = new WardWatch();
        for (int c : NO_COURTS) {
            Due.is("far(" + c + ", 0)", x.far(c, 0), -2);
            Due.is("far(0, " + c + ")", x.far(0, c), -2);
            Due.is("far(" + c + ", " + c + ")", x.far(c, c), -2);
        }
        x.way(0, 1, 50);
        x.way(1, 2, 10);
        x.way(2, 0, 20);
        Due.is("far by two ways", x.far(0, 1), 30);
        Due.is("far(11, 11)", x.far(11, 11), 0);
        x.way(2, 0, -1);
        Due.is("far without that way", x.far(0, 1), 50);
        Due.is("far(2, 0)", x.far(2, 0), 60);
    }

    private static void cries() {
        WardWatch x = new WardWatch();
        for (int c : NO_COURTS) {
            Due.is("cry(" + c + ", 5)", x.cry(c, 5), -2);
        }
        for (int minutes : new int[] {-1, 1000, Integer.MAX_VALUE, Integer.MIN_VALUE}) {
            Due.is("cry(0, " + minutes + ")", x.cry(0, minutes), -2);
        }
        x.way(0, 11, 7);
        x.way(11, 5, 7);
        Due.is("cry(0, 0)", x.cry(0, 0), 1);
        Due.is("cry(0, 6)", x.cry(0, 6), 1);
        Due.is("cry(0, 7)", x.cry(0, 7), 1 | 1 << 11);
        Due.is("cry(0, 13)", x.cry(0, 13), 1 | 1 << 11);
        Due.is("cry(0, 14)", x.cry(0, 14), 1 | 1 << 11 | 1 << 5);
        Due.is("cry(11, 999)", x.cry(11, 999), 1 | 1 << 11 | 1 << 5);
    }

    private static void longestChain() {
        WardWatch x = new WardWatch();
        for (int c = 0; c < 11; c++) {
            x.way(c, c + 1, 99);
        }
        Due.is("far(0, 11)", x.far(0, 11), 1089);
        Due.is("far(11, 0)", x.far(11, 0), 1089);
        Due.is("a cry of 999 is heard at 990", x.cry(0, 999), 0b11111111111);
    }

    /** FAR here by going along ways as often as there are courts, not by way of each court. */
    private static void randomTown(Random random) {
        WardWatch x = new WardWatch();
        int[][] ways = new int[12][12];
        for (int i = 0; i < 30; i++) {
            int c = random.nextInt(12);
            int d = random.nextInt(12);
            int minutes = random.nextInt(5) == 0 ? -1 : 1 + random.nextInt(99);
            if (c != d) {
                Due.is("way", x.way(c, d, minutes), ways[c][d] == 0 ? -1 : ways[c][d]);
                ways[c][d] = ways[d][c] = minutes == -1 ? 0 : minutes;
            }
        }
        for (int c = 0; c < 12; c++) {
            int[] far = farFrom(ways, c);
            int heard = 0;
            int minutes = random.nextInt(250);
            for (int d = 0; d < 12; d++) {
                Due.is("far(" + c + ", " + d + ")", x.far(c, d), far[d] > 9999 ? -1 : far[d]);
                heard |= far[d] <= minutes ? 1 << d : 0;
            }
            Due.is("cry(" + c + ", " + minutes + ")", x.cry(c, minutes), heard);
        }
    }

    private static int[] farFrom(int[][] ways, int c) {
        int[] far = new int[12];
        for (int d = 0; d < 12; d++) {
            far[d] = d == c ? 0 : 100000;
        }
        for (int turn = 0; turn < 12; turn++) {
            for (int a = 0; a < 12; a++) {
                for (int b = 0; b < 12; b++) {
                    if (ways[a][b] > 0) {
                        far[b] = Math.min(far[b], far[a] + ways[a][b]);
                    }
                }
            }
        }
        return far;
    }
}
