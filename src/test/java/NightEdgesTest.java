import java.util.Arrays;

/** The edges that the document names in parts IV and V, for promises 20 to 26; a method quotes its sentence, or says it. */
public final class NightEdgesTest {
    private static final String ALWAYS = "power stop from 0 to 23;";
    private static final int LIES = 0;
    private static final int UNLAWFUL = 1;
    private static final int LET_GO = 2;
    private static final int BROUGHT = 3;

    public static void main(String[] args) {
        hundredCharges();
        placesAtFirst();
        noPlaceAtAll();
        twentyPlaces();
        behindThreeComesZero();
        allFull();
        cryOfTheOtherWard();
        unlawfulThoughFull();
        chestBelowZero();
        mornings();
        hoursOfCharges();
        rowsTooShortAndTooLong();
        bytesOfRows();
        followOfNoMinutes();
        followOfMostMinutes();
        minutesSinceHisOwn();
        endsForGood();
        latestFlight();
        doubtsAtTheBounds();
        counts();
        Due.end();
    }

    /** Takes a charge of stop at noon; it comes as number k, and so it fares. */
    private static void taken(WardWatch x, int ward, boolean cried, int k, int state, int lockup) {
        Due.is("charge(" + ward + ", 0, 12, " + cried + ")", x.charge(ward, 0, 12, cried), k);
        chargeIs(x, k, ward, state, lockup);
    }

    private static void chargeIs(WardWatch x, int k, int ward, int state, int lockup) {
        Due.is("charged(" + k + ", 0)", x.charged(k, 0), ward);
        Due.is("charged(" + k + ", 3)", x.charged(k, 3), state);
        Due.is("charged(" + k + ", 4)", x.charged(k, 4), lockup);
    }

    private static void flees(WardWatch x, String row, boolean cried, int courts, int minutes, int last) {
        Due.lay(x, row);
        Due.is("flee(" + cried + ") of " + row, x.flee(cried), courts);
        Due.is("fled(0) of " + row, x.fled(0), minutes);
        Due.is("fled(1) of " + row, x.fled(1), last);
        Due.is("count(2)", x.count(2), 0);
    }

    /** "a CHARGE (at most 100 in all)": those that were brought count as well. */
    private static void hundredCharges() {
        WardWatch x = new WardWatch();
        Due.tellLaws(x, 0, ALWAYS + "lockup 20;", 2);
        for (int k = 0; k < 100; k++) {
            taken(x, 0, false, k, LIES, 0);
            if (k % 20 == 19) {
                Due.is("morning()", x.morning(), 20);
            }
        }
        Due.is("the 101st", x.charge(0, 0, 12, false), -3);
        Due.is("the 101st, unlawful", x.charge(1, 0, 12, false), -3);
        Due.is("no such power, though full", x.charge(0, 3, 12, false), -2);
        Due.is("count(1)", x.count(1), 100);
        Due.is("count(11)", x.count(11), 0);
        Due.is("count(20)", x.count(20), 0);
        chargeIs(x, 99, 0, BROUGHT, 0);
        chargeIs(x, 100, -1, -1, -1);
        Due.is("morning()", x.morning(), 0);
    }

    /** "lockup 4" while it isn't told, "else they are LET GO". */
    private static void placesAtFirst() {
        WardWatch x = new WardWatch();
        Due.tellLaws(x, 1, ALWAYS, 1);
        for (int k = 0; k < 4; k++) {
            taken(x, 1, true, k, LIES, 1);
        }
        taken(x, 1, true, 4, LET_GO, -1);
        Due.is("count(21)", x.count(21), 4);
        Due.is("count(11)", x.count(11), 0);
    }

    /** "of lockup 0 .. 20": with 0 there is never place. */
    private static void noPlaceAtAll() {
        WardWatch x = new WardWatch();
        Due.tellLaws(x, 1, ALWAYS + "lockup 0;", 2);
        taken(x, 1, true, 0, LET_GO, -1);
        Due.tellLaws(x, 2, "follow 0;", 1);
        taken(x, 1, false, 1, LIES, 2);
        Due.is("count(21)", x.count(21), 0);
        Due.is("count(22)", x.count(22), 1);
        Due.is("morning()", x.morning(), 1);
    }

    /** "of lockup 0 .. 20" */
    private static void twentyPlaces() {
        WardWatch x = new WardWatch();
        Due.tellLaws(x, 0, ALWAYS + "lockup 20;", 2);
        Due.tellLaws(x, 1, "lockup 1; follow 1;", 2);
        for (int k = 0; k < 20; k++) {
            taken(x, 0, false, k, LIES, 0);
        }
        taken(x, 0, false, 20, LIES, 1);
        taken(x, 0, false, 21, LET_GO, -1);
        Due.is("count(20)", x.count(20), 20);
        Due.is("count(21)", x.count(21), 1);
        Due.is("morning()", x.morning(), 21);
    }

    /** "the first of the next WARDS in number (behind 3 comes 0) that has place" */
    private static void behindThreeComesZero() {
        for (int ward = 0; ward < 4; ward++) {
            WardWatch x = new WardWatch();
            for (int w = 0; w < 4; w++) {
                Due.tellLaws(x, w, ALWAYS + "lockup 1; follow 1;", 3);
            }
            for (int k = 0; k < 4; k++) {
                taken(x, ward, false, k, LIES, (ward + k) % 4);
                Due.is("count of it", x.count(20 + (ward + k) % 4), 1);
            }
            taken(x, ward, false, 4, LET_GO, -1);
        }
    }

    /** "else they are LET GO": no ward has place. */
    private static void allFull() {
        WardWatch x = new WardWatch();
        for (int w = 0; w < 4; w++) {
            Due.tellLaws(x, w, ALWAYS + "lockup 0; follow 999;", 3);
        }
        for (int w = 0; w < 4; w++) {
            taken(x, w, true, w, LET_GO, -1);
            Due.is("nothing is owed", x.count(10 + w), 0);
        }
        Due.is("morning()", x.morning(), 0);
    }

    /** "if its LAWS tell follow (and there was a CRY, if that tells cry)" */
    private static void cryOfTheOtherWard() {
        WardWatch x = new WardWatch();
        Due.tellLaws(x, 3, ALWAYS + "lockup 0; follow 9;", 3);
        taken(x, 3, true, 0, LET_GO, -1);
        Due.tellLaws(x, 0, "follow 0 cry;", 1);
        taken(x, 3, false, 1, LET_GO, -1);
        taken(x, 3, true, 2, LIES, 0);
        Due.tellLaws(x, 0, "follow 0;", 1);
        taken(x, 3, false, 3, LIES, 0);
    }

    /** "UNLAWFUL if the POWER isn't given: they are let go, and the WARD's chest owes 5." */
    private static void unlawfulThoughFull() {
        WardWatch x = new WardWatch();
        Due.tellLaws(x, 2, "power stop from 13 to 11; lockup 0;", 2);
        Due.tellLaws(x, 3, "follow 9; power stop from 12 to 12;", 2);
        taken(x, 2, true, 0, UNLAWFUL, -1);
        Due.is("count(12)", x.count(12), -5);
        Due.is("count(13)", x.count(13), 0);
        Due.is("count(23)", x.count(23), 0);
        Due.is("morning()", x.morning(), 0);
        chargeIs(x, 0, 2, UNLAWFUL, -1);
    }

    /** "the chest of WARD w (it may be below 0)": a fine goes into the same chest. */
    private static void chestBelowZero() {
        WardWatch x = new WardWatch();
        for (int k = 0; k < 3; k++) {
            taken(x, 0, false, k, UNLAWFUL, -1);
        }
        Due.is("count(10)", x.count(10), -15);
        Due.tellLaws(x, 0, "fine 14;", 1);
        x.house(0, 1620);
        x.would(0, 2);
        x.purse(0, 14);
        Due.is("fill(0, 1650)", x.fill(0, 1650), -1);
        Due.is("count(10)", x.count(10), -1);
    }

    /** "At a MORNING all are brought before the magistrate: each LOCK-UP is empty." */
    private static void mornings() {
        WardWatch x = new WardWatch();
        Due.is("morning() without charges", x.morning(), 0);
        for (int w = 0; w < 4; w++) {
            Due.tellLaws(x, w, ALWAYS + "lockup 1;", 2);
            taken(x, w, false, 2 * w, LIES, w);
            taken(x, w, false, 2 * w + 1, LET_GO, -1);
        }
        Due.is("morning()", x.morning(), 4);
        for (int w = 0; w < 4; w++) {
            Due.is("count of " + w, x.count(20 + w), 0);
            chargeIs(x, 2 * w, w, BROUGHT, w);
            chargeIs(x, 2 * w + 1, w, LET_GO, -1);
        }
        Due.is("morning() again", x.morning(), 0);
        for (int w = 0; w < 4; w++) {
            taken(x, w, false, 8 + w, LIES, w);
        }
        Due.is("morning()", x.morning(), 4);
        chargeIs(x, 0, 0, BROUGHT, 0);
    }

    /** "its number; RANGE": hours 0 .. 23, powers 0 .. 2, wards 0 .. 3. */
    private static void hoursOfCharges() {
        WardWatch x = new WardWatch();
        Due.tellLaws(x, 3, "power enter from 23 to 0;", 1);
        Due.is("charge(3, 2, -1)", x.charge(3, 2, -1, true), -2);
        Due.is("charge(3, 2, 24)", x.charge(3, 2, 24, true), -2);
        Due.is("charge(3, 3, 0)", x.charge(3, 3, 0, true), -2);
        Due.is("charge(3, -1, 0)", x.charge(3, -1, 0, true), -2);
        Due.is("charge(4, 2, 0)", x.charge(4, 2, 0, true), -2);
        Due.is("charge(-1, 2, 0)", x.charge(-1, 2, 0, true), -2);
        Due.is("count(1)", x.count(1), 0);
        int[] hours = {0, 1, 22, 23};
        int[] states = {LIES, UNLAWFUL, UNLAWFUL, LIES};
        for (int k = 0; k < hours.length; k++) {
            Due.is("charge(3, 2, " + hours[k] + ")", x.charge(3, 2, hours[k], false), k);
            chargeIs(x, k, 3, states[k], states[k] == LIES ? 3 : -1);
            Due.is("charged(" + k + ", 1)", x.charged(k, 1), 2);
            Due.is("charged(" + k + ", 2)", x.charged(k, 2), hours[k]);
        }
        Due.is("charged(0, 5)", x.charged(0, 5), -1);
        Due.is("charged(0, -1)", x.charged(0, -1), -1);
        Due.is("charged(4, 0)", x.charged(4, 0), -1);
        Due.is("charged(-1, 0)", x.charged(-1, 0), -1);
    }

    private static void isNoRow(WardWatch x, String row) {
        Due.lay(x, row);
        Due.is("flee of " + row.length() + " bytes: " + row, x.flee(true), -1);
        Due.is("count(2)", x.count(2), 0);
    }

    /** "told COURTS (2 .. 10, each with a WAY to the next)", "NONE: no such row" */
    private static void rowsTooShortAndTooLong() {
        WardWatch x = new WardWatch();
        x.way(0, 1, 3);
        isNoRow(x, "");
        isNoRow(x, "A");
        flees(x, "BA", false, 2, 3, 0);
        for (int length = 2; length <= 10; length++) {
            flees(x, "AB".repeat(5).substring(0, length), false, length, 3 * (length - 1), (length + 1) % 2);
        }
        isNoRow(x, "ABABABABABA");
        isNoRow(x, "AB".repeat(400));
        isNoRow(x, "ABC");
        isNoRow(x, "CAB");
        isNoRow(x, "AAB");
        x.way(0, 1, -1);
        isNoRow(x, "AB");
    }

    /** "a byte each (its number and 65)" */
    private static void bytesOfRows() {
        WardWatch x = new WardWatch();
        for (int c = 0; c < 12; c++) {
            for (int d = 0; d < c; d++) {
                x.way(c, d, 1);
            }
        }
        for (int c = 0; c < 12; c++) {
            int d = (c + 1) % 12;
            flees(x, "" + (char) (65 + c) + (char) (65 + d), false, 2, 1, d);
        }
        for (int b : new int[] {0, 1, 11, 32, 64, 77, 97, 127, 128, 193, 255}) {
            isNoRow(x, (char) b + "A");
            isNoRow(x, "A" + (char) b);
        }
    }

    /** "the minutes since he left .. are not above it then": never with 0, as a way takes 1 at least. */
    private static void followOfNoMinutes() {
        WardWatch x = new WardWatch();
        x.court(1, 1, 60);
        x.way(0, 1, 1);
        Due.tellLaws(x, 1, "follow 0;", 1);
        flees(x, "AB", true, 1, 0, 0);
        Due.tellLaws(x, 1, "follow 1;", 1);
        flees(x, "AB", true, 2, 1, 1);
        x.way(0, 1, 2);
        flees(x, "AB", true, 1, 0, 0);
    }

    /** "of follow 0 .. 999" */
    private static void followOfMostMinutes() {
        WardWatch x = new WardWatch();
        x.court(0, 3, 60);
        for (int c = 0; c < 9; c++) {
            x.way(c, c + 1, 99);
        }
        Due.tellLaws(x, 0, "follow 999 cry;", 1);
        flees(x, "ABCDEFGHIJ", true, 10, 891, 9);
        flees(x, "ABCDEFGHIJ", false, 1, 0, 0);
        Due.tellLaws(x, 0, "follow 891;", 1);
        flees(x, "ABCDEFGHIJ", false, 10, 891, 9);
        Due.tellLaws(x, 0, "follow 890;", 1);
        flees(x, "ABCDEFGHIJ", false, 9, 792, 8);
        Due.tellLaws(x, 0, "follow 99;", 1);
        flees(x, "ABCDEFGHIJ", false, 2, 99, 1);
        Due.tellLaws(x, 0, "follow 98;", 1);
        flees(x, "ABCDEFGHIJ", false, 1, 0, 0);
    }

    /** "the minutes since he left the latest COURT of his own": not those ahead of it, all those behind it. */
    private static void minutesSinceHisOwn() {
        WardWatch x = new WardWatch();
        x.court(2, 1, 60);
        x.court(3, 2, 60);
        x.way(0, 1, 50);
        x.way(1, 2, 4);
        x.way(2, 3, 5);
        x.way(3, 0, 6);
        Due.tellLaws(x, 1, "follow 4;", 1);
        Due.tellLaws(x, 2, "follow 9;", 1);
        flees(x, "ABCD", false, 4, 59, 3);
        flees(x, "ABCDAB", false, 6, 115, 1);
        flees(x, "ABCBCD", false, 6, 67, 3);
        Due.tellLaws(x, 2, "follow 8;", 1);
        flees(x, "ABCD", false, 3, 54, 2);
        flees(x, "ABAD", false, 4, 106, 3);
        Due.tellLaws(x, 2, "follow 9 cry;", 1);
        flees(x, "ABCD", false, 3, 54, 2);
        flees(x, "ABCD", true, 4, 59, 3);
    }

    /** "He ENDS at the last COURT where he may be": he comes to none behind one that he may not enter. */
    private static void endsForGood() {
        WardWatch x = new WardWatch();
        x.court(1, 1, 60);
        x.way(0, 1, 5);
        flees(x, "ABA", true, 1, 0, 0);
        flees(x, "BAB", true, 1, 0, 1);
        Due.tellLaws(x, 0, "follow 5;", 1);
        flees(x, "BAB", true, 3, 10, 1);
        flees(x, "ABA", true, 1, 0, 0);
    }

    /** "by the latest flee() that told a number. -9 when there is none such" */
    private static void latestFlight() {
        WardWatch x = new WardWatch();
        isNoRow(x, "AB");
        for (int what : new int[] {-1, 0, 1, 2}) {
            Due.is("fled(" + what + ") ahead of any", x.fled(what), -9);
        }
        x.way(4, 5, 8);
        flees(x, "EF", false, 2, 8, 5);
        isNoRow(x, "EFG");
        isNoRow(x, "");
        Due.is("fled(0)", x.fled(0), 8);
        Due.is("fled(1)", x.fled(1), 5);
        Due.is("fled(2)", x.fled(2), -9);
        Due.is("fled(-1)", x.fled(-1), -9);
    }

    private static void doubtIs(WardWatch x, int[] table, long above, long below, long beyond) {
        long[] due = {above, below, beyond};
        for (int what = 0; what < 3; what++) {
            Due.is("doubt of " + Arrays.toString(table) + ", what " + what,
                    x.doubt(table[0], table[1], table[2], table[3], what), due[what]);
        }
    }

    /** "(0 .. 15 each)", "a fraction, cut", "20 times that is not above all", "RANGE: .. nothing in it, or what" */
    private static void doubtsAtTheBounds() {
        WardWatch x = new WardWatch();
        for (int i = 0; i < 4; i++) {
            int[] alone = new int[4];
            doubtIs(x, alone, -2, -2, -2);
            alone[i] = 1;
            doubtIs(x, alone, 1, 1, 0);
            alone[i] = 15;
            doubtIs(x, alone, 1, 1, 0);
            alone[i] = 16;
            doubtIs(x, alone, -2, -2, -2);
            alone[i] = -1;
            doubtIs(x, alone, -2, -2, -2);
        }
        doubtIs(x, new int[] {0, 3, 3, 0}, 1, 20, 1);
        doubtIs(x, new int[] {0, 4, 6, 3}, 7, 143, 1);
        doubtIs(x, new int[] {1, 5, 6, 2}, 2, 39, 0);
        doubtIs(x, new int[] {4, 12, 15, 12}, 5865115, 117285338, 0);
        doubtIs(x, new int[] {0, 1, 1, 15}, 16, 17, 0);
        doubtIs(x, new int[] {0, 2, 4, 1}, 1, 7, 0);
        doubtIs(x, new int[] {0, 2, 5, 0}, 1, 21, 1);
        doubtIs(x, new int[] {15, 0, 0, 15}, 1, 1, 0);
        doubtIs(x, new int[] {0, 15, 15, 0}, 1, 155117520, 1);
        Due.is("what 3", x.doubt(1, 1, 1, 1, 3), -2);
        Due.is("what -1", x.doubt(1, 1, 1, 1, -1), -2);
    }

    /** "NONE for others" */
    private static void counts() {
        WardWatch x = new WardWatch();
        for (int what = -2; what <= 40; what++) {
            boolean isLatestYear = what >= 30 && what <= 33;
            boolean isTold = what >= 0 && what <= 2 || what >= 10 && what <= 13 || what >= 20 && what <= 23;
            Due.is("count(" + what + ")", x.count(what), isTold && !isLatestYear ? 0 : -1);
        }
    }
}
