/** The edges that the document names in part I, for promises 4 to 9; a method quotes its sentence, or says it. */
public final class CourtEdgesTest {
    private static final int COURTS = 12;

    public static void main(String[] args) {
        wardAtFirst();
        everyWard();
        withinAtFirst();
        greatestWithin();
        leastWithin();
        strictestCourtDecides();
        inSomeOrder();
        eitherWay();
        noWayToItself();
        unlikeHowManyMinutes();
        noWayLeads();
        fewestMenFirst();
        thenTheLeastSum();
        thenTheLeastRow();
        setsTooSmallAndTooLarge();
        askedOfARound();
        cryOfMostMinutes();
        Due.end();
    }

    private static WardWatch townInLine(int minutes) {
        WardWatch x = new WardWatch();
        for (int c = 0; c + 1 < COURTS; c++) {
            Due.is("way(" + c + ", " + (c + 1) + ")", x.way(c, c + 1, minutes), -1);
        }
        return x;
    }

    /** Whether a man of another ward comes into c; only the ward told here lets him follow. */
    private static void isInWard(WardWatch x, int c, int ward) {
        int from = (c + 1) % COURTS;
        x.court(from, (ward + 1) % 4, 60);
        x.way(from, c, 1);
        Due.tellLaws(x, ward, "follow 1;", 1);
        Due.lay(x, "" + (char) (65 + from) + (char) (65 + c));
        Due.is("court " + c + " is in ward " + ward, x.flee(false), 2);
        Due.tellLaws(x, ward, "", 0);
        Due.lay(x, "" + (char) (65 + from) + (char) (65 + c));
        Due.is("court " + c + " is in no ward of his", x.flee(false), 1);
    }

    /** "each in a WARD 0 .. 3 (0 at first)" */
    private static void wardAtFirst() {
        for (int c = 0; c < COURTS; c++) {
            isInWard(new WardWatch(), c, 0);
        }
    }

    /** "A COURT is in a WARD": any of the four, told again as often as one likes. */
    private static void everyWard() {
        WardWatch x = new WardWatch();
        for (int ward = 3; ward >= 0; ward--) {
            for (int c : new int[] {0, 11}) {
                Due.is("court(" + c + ", " + ward + ", 60)", x.court(c, ward, 60), 1);
                isInWard(x, c, ward);
            }
        }
    }

    /** "WITHIN minutes (1 .. 999; 60 at first)" */
    private static void withinAtFirst() {
        for (int c = 0; c < COURTS; c++) {
            WardWatch x = new WardWatch();
            int d = (c + 1) % COURTS;
            int e = (c + 2) % COURTS;
            x.court(d, 0, 999);
            x.court(e, 0, 999);
            x.way(c, d, 20);
            x.way(d, e, 20);
            x.way(e, c, 20);
            int set = 1 << c | 1 << d | 1 << e;
            Due.is("60 minutes of court " + c, x.rounds(set), 1);
            x.way(e, c, 21);
            Due.is("61 minutes of court " + c, x.rounds(set), 2);
        }
    }

    /** "It may be, if it is not above WITHIN of any of its COURTS", at the greatest WITHIN. */
    private static void greatestWithin() {
        WardWatch x = townInLine(83);
        x.way(11, 0, 86);
        for (int c = 0; c < COURTS; c++) {
            Due.is("court(" + c + ", 0, 999)", x.court(c, 0, 999), 1);
        }
        Due.is("999 minutes round", x.rounds(0b111110111110), 1);
        Due.is("round(0)", x.round(0), 999);
        Due.is("round(30)", x.round(30), 999);
        Due.is("court(5, 0, 998)", x.court(5, 0, 998), 1);
        Due.is("999 minutes are above 998", x.rounds(0b111110111110), 2);
        x.court(5, 0, 999);
        x.way(11, 0, 87);
        Due.is("1000 minutes round", x.rounds(0b111110111110), 2);
    }

    /** "(one COURT alone: 0)" is not above the least WITHIN; two courts always are. */
    private static void leastWithin() {
        WardWatch x = townInLine(1);
        for (int c = 0; c < COURTS; c++) {
            Due.is("court(" + c + ", 0, 1)", x.court(c, 0, 1), 1);
            Due.is("rounds of " + c + " alone", x.rounds(1 << c), 1);
            Due.is("its sum", x.round(0), 0);
            Due.is("its length", x.round(30), 0);
            Due.is("its court", x.round(50), 1 << c);
        }
        Due.is("ten men", x.rounds(1023), 10);
        x.court(0, 0, 2);
        Due.is("2 minutes are above 1 of the other", x.rounds(3), 2);
        x.court(1, 0, 2);
        Due.is("2 minutes are not above 2", x.rounds(3), 1);
    }

    /** "not above WITHIN of any of its COURTS": the first, one amid them, the last. */
    private static void strictestCourtDecides() {
        for (int strict : new int[] {2, 5, 8}) {
            WardWatch x = new WardWatch();
            x.way(2, 5, 10);
            x.way(5, 8, 10);
            x.way(8, 2, 10);
            x.court(strict, 0, 30);
            Due.is("30 minutes, court " + strict, x.rounds(1 << 2 | 1 << 5 | 1 << 8), 1);
            x.court(strict, 0, 29);
            Due.is("29 minutes, court " + strict, x.rounds(1 << 2 | 1 << 5 | 1 << 8), 2);
            x.court(strict, 0, 20);
            Due.is("20 minutes, court " + strict, x.rounds(1 << 2 | 1 << 5 | 1 << 8), 2);
            Due.is("the least row", x.round(50), 1 << 2 | 1 << 5);
            x.court(strict, 0, 19);
            Due.is("19 minutes, court " + strict, x.rounds(1 << 2 | 1 << 5 | 1 << 8), 2);
            Due.is("it is alone", x.round(50 + x.round(10 + strict)), 1 << strict);
            Due.is("the others' sum", x.round(0), 20);
        }
    }

    /** "goes through its COURTS in some order, each once, and back to the first": the shortest is not by number. */
    private static void inSomeOrder() {
        WardWatch x = new WardWatch();
        int[] ring = {0, 3, 1, 4, 2};
        for (int i = 0; i < ring.length; i++) {
            x.way(ring[i], ring[(i + 1) % ring.length], 12);
        }
        Due.is("rounds(31)", x.rounds(31), 1);
        Due.is("round(0)", x.round(0), 60);
        x.way(4, 2, -1);
        Due.is("there and back again", x.rounds(31), 2);
        Due.is("round(0)", x.round(0), 72);
    }

    /** "WAYS between two COURTS (either way) take 1 .. 99 minutes; not told ones there are none." */
    private static void eitherWay() {
        WardWatch x = new WardWatch();
        Due.is("way(11, 0, NONE)", x.way(11, 0, -1), -1);
        Due.is("way(0, 11, 1)", x.way(0, 11, 1), -1);
        Due.is("far(11, 0)", x.far(11, 0), 1);
        Due.is("way(11, 0, 99)", x.way(11, 0, 99), 1);
        Due.is("far(0, 11)", x.far(0, 11), 99);
        Due.is("way(0, 11, NONE)", x.way(0, 11, -1), 99);
        Due.is("far(11, 0)", x.far(11, 0), -1);
        Due.is("way(11, 0, NONE)", x.way(11, 0, -1), -1);
    }

    /** "A WAY between two COURTS (unlike)"; FAR "0 to itself" */
    private static void noWayToItself() {
        WardWatch x = townInLine(9);
        for (int c = 0; c < COURTS; c++) {
            for (int minutes : new int[] {-1, 1, 99}) {
                Due.is("way(" + c + ", " + c + ", " + minutes + ")", x.way(c, c, minutes), -2);
            }
            Due.is("far(" + c + ", " + c + ")", x.far(c, c), 0);
        }
        Due.is("far(0, 11)", x.far(0, 11), 99);
    }

    /** A way that can't be leaves the one that is. */
    private static void unlikeHowManyMinutes() {
        WardWatch x = new WardWatch();
        x.way(4, 7, 50);
        for (int minutes : new int[] {0, 100, -2, Integer.MIN_VALUE, Integer.MAX_VALUE}) {
            Due.is("way(4, 7, " + minutes + ")", x.way(4, 7, minutes), -2);
            Due.is("far(7, 4)", x.far(7, 4), 50);
        }
        Due.is("way(4, 7, 51)", x.way(4, 7, 51), 50);
    }

    /** FAR: "none, if no WAY leads"; nobody goes such a round, and no cry is heard there. */
    private static void noWayLeads() {
        WardWatch x = new WardWatch();
        x.court(0, 0, 999);
        x.court(1, 0, 999);
        x.way(0, 2, 1);
        x.way(1, 3, 1);
        Due.is("far(0, 1)", x.far(0, 1), -1);
        Due.is("cry(0, 999)", x.cry(0, 999), 0b101);
        Due.is("rounds(3)", x.rounds(3), 2);
        Due.is("rounds(15)", x.rounds(15), 2);
        Due.is("round(0)", x.round(0), 4);
        x.way(2, 3, 1);
        Due.is("far(0, 1) by three ways", x.far(0, 1), 3);
        Due.is("rounds(3)", x.rounds(3), 1);
        Due.is("round(0)", x.round(0), 6);
    }

    /** "the fewest men; then the least sum of lengths" */
    private static void fewestMenFirst() {
        WardWatch x = new WardWatch();
        x.way(0, 1, 30);
        Due.is("one man, though two would go less", x.rounds(3), 1);
        Due.is("round(0)", x.round(0), 60);
    }

    /** The least sum goes ahead of the least row. */
    private static void thenTheLeastSum() {
        WardWatch x = new WardWatch();
        x.way(0, 1, 21);
        x.way(0, 2, 20);
        x.way(1, 2, 22);
        Due.is("63 minutes are above 60", x.rounds(7), 2);
        Due.is("round(0)", x.round(0), 40);
        Due.is("round(10)", x.round(10), 0);
        Due.is("round(11)", x.round(11), 1);
        Due.is("round(12)", x.round(12), 0);
        Due.is("round(30)", x.round(30), 40);
        Due.is("round(31)", x.round(31), 0);
        Due.is("round(50)", x.round(50), 0b101);
        Due.is("round(51)", x.round(51), 0b010);
    }

    /** "then the least row (of the COURTS by number: the man, numbered from 0 as they come)" */
    private static void thenTheLeastRow() {
        WardWatch x = new WardWatch();
        x.way(3, 6, 21);
        x.way(3, 9, 21);
        x.way(6, 9, 21);
        Due.is("rounds", x.rounds(1 << 3 | 1 << 6 | 1 << 9), 2);
        Due.is("man of 3", x.round(13), 0);
        Due.is("man of 6", x.round(16), 0);
        Due.is("man of 9", x.round(19), 1);
        x.court(6, 0, 41);
        Due.is("rounds", x.rounds(1 << 3 | 1 << 6 | 1 << 9), 2);
        Due.is("man of 6", x.round(16), 1);
        Due.is("man of 9", x.round(19), 0);
    }

    /** "a set of COURTS (bits; one or more)", "RANGE; FULL: more than 10" */
    private static void setsTooSmallAndTooLarge() {
        WardWatch x = townInLine(1);
        Due.is("one man for ten", x.rounds(0b101111111110), 1);
        Due.is("round(0)", x.round(0), 20);
        for (int set : new int[] {0, 1 << 12, 1 << 12 | 1, 8191, 1 << 31, -1, Integer.MAX_VALUE}) {
            Due.is("rounds(" + set + ")", x.rounds(set), -2);
            Due.is("the latest stays", x.round(0), 20);
        }
        for (int c = 0; c < COURTS; c++) {
            Due.is("eleven, all but " + c, x.rounds(4095 ^ 1 << c), -3);
            Due.is("the latest stays", x.round(50), 0b101111111110);
        }
        Due.is("twelve", x.rounds(4095), -3);
        Due.is("the last court alone", x.rounds(1 << 11), 1);
        Due.is("round(0)", x.round(0), 0);
        Due.is("round(21)", x.round(21), 0);
    }

    /** "the man of COURT c (NONE) .. -9 when there is none such" */
    private static void askedOfARound() {
        WardWatch x = new WardWatch();
        x.way(1, 2, 5);
        for (int what : new int[] {0, 10, 11, 21, 30, 50}) {
            Due.is("round(" + what + ") ahead of any", x.round(what), -9);
        }
        Due.is("rounds", x.rounds(0b1110), 2);
        int[] men = {-1, 0, 0, 1, -1, -1, -1, -1, -1, -1, -1, -1};
        for (int c = 0; c < COURTS; c++) {
            Due.is("man of " + c, x.round(10 + c), men[c]);
        }
        Due.is("round(30)", x.round(30), 10);
        Due.is("round(31)", x.round(31), 0);
        Due.is("round(50)", x.round(50), 0b0110);
        Due.is("round(51)", x.round(51), 0b1000);
        for (int what : new int[] {-1, 1, 9, 22, 29, 32, 39, 40, 49, 52, 59, 60}) {
            Due.is("round(" + what + ")", x.round(what), -9);
        }
    }

    /** "of so many minutes (0 .. 999)", "heard at each COURT that is not farther" */
    private static void cryOfMostMinutes() {
        WardWatch x = townInLine(99);
        x.way(10, 11, 9);
        Due.is("far(0, 11)", x.far(0, 11), 999);
        Due.is("cry(0, 999)", x.cry(0, 999), 4095);
        Due.is("cry(11, 998)", x.cry(11, 998), 4094);
        Due.is("cry(0, 1000)", x.cry(0, 1000), -2);
        x.way(10, 11, 10);
        Due.is("cry(0, 999) where one is 1000 off", x.cry(0, 999), 2047);
        Due.is("cry(5, 0)", x.cry(5, 0), 1 << 5);
        Due.is("cry(5, 98)", x.cry(5, 98), 1 << 5);
        Due.is("cry(5, 99)", x.cry(5, 99), 0b1110000);
        Due.is("cry(5, -1)", x.cry(5, -1), -2);
    }
}
