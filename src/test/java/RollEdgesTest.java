/** The edges that the document names in part III, for promises 14 to 19; a method quotes its sentence, or says it. */
public final class RollEdgesTest {
    private static final int SERVE = 0;
    private static final int HIRE = 1;
    private static final int PAY = 2;

    public static void main(String[] args) {
        sixtyHouses();
        yearsOfBirth();
        fullPurses();
        purseSpentAndFilled();
        firstYears();
        oneAfterTheOther();
        lastYear();
        allYears();
        firstAges();
        ageZero();
        oldest();
        mostLeave();
        leaveOfThoseWhoHireOrPay();
        leaveOfThePresentLaws();
        behindTheLastOne();
        turnOfAPayer();
        turnStaysWithNobody();
        wardsHaveTheirOwnTurns();
        hireJustEnough();
        fineJustEnough();
        asToldOfTheHouse();
        lookedAtOnce();
        nobodyLeft();
        yearsThatAreNot();
        housesThatAreNot();
        Due.end();
    }

    private static int addHouse(WardWatch x, int ward, int born, int would, int pence) {
        int h = x.house(ward, born);
        x.would(h, would);
        if (pence > 0) {
            Due.is("purse(" + h + ", " + pence + ")", x.purse(h, pence), pence);
        }
        return h;
    }

    private static void yearIs(WardWatch x, int ward, int year, int... due) {
        for (int what = 0; what < due.length; what++) {
            Due.is("year(" + ward + ", " + year + ", " + what + ")", x.year(ward, year, what), due[what]);
        }
    }

    private static void houseIs(WardWatch x, int h, int purse, int lastYear, int times) {
        Due.is("about(" + h + ", 2)", x.about(h, 2), purse);
        Due.is("about(" + h + ", 4)", x.about(h, 4), lastYear);
        Due.is("about(" + h + ", 5)", x.about(h, 5), times);
    }

    /** "HOUSES, at most 60, numbered from 0 as they come": all sixty of one ward have their turns. */
    private static void sixtyHouses() {
        WardWatch x = new WardWatch();
        Due.tellLaws(x, 2, "leave 0;", 1);
        for (int h = 0; h < 60; h++) {
            Due.is("house " + h, x.house(2, 1620), h);
        }
        Due.is("the 61st", x.house(2, 1620), -3);
        Due.is("the 61st of another ward", x.house(0, 1620), -3);
        Due.is("no such ward, though full", x.house(-1, 1620), -2);
        Due.is("no such birth, though full", x.house(2, 1800), -2);
        Due.is("count(0)", x.count(0), 60);
        Due.is("fill(2, 1650)", x.fill(2, 1650), 0);
        Due.tellLaws(x, 2, "leave 0; age 0 99;", 2);
        for (int h = 1; h < 60; h++) {
            Due.is("the turn of " + h, x.fill(2, -1), h);
        }
        Due.is("behind 59 comes 0", x.fill(2, -1), 0);
    }

    /** "its master born in a year (1500 .. 1799)" */
    private static void yearsOfBirth() {
        WardWatch x = new WardWatch();
        Due.is("house(0, 1499)", x.house(0, 1499), -2);
        Due.is("house(0, 1800)", x.house(0, 1800), -2);
        Due.is("house(0, 1500)", x.house(0, 1500), 0);
        Due.is("house(3, 1799)", x.house(3, 1799), 1);
        Due.is("house(4, 1600)", x.house(4, 1600), -2);
        Due.is("about(0, 1)", x.about(0, 1), 1500);
        Due.is("about(1, 1)", x.about(1, 1), 1799);
        Due.is("about(1, 0)", x.about(1, 0), 3);
        Due.is("count(0)", x.count(0), 2);
    }

    /** "(1 .. 100000): how many; RANGE, also if that were above 1000000" */
    private static void fullPurses() {
        WardWatch x = new WardWatch();
        x.house(0, 1600);
        Due.is("purse(0, 0)", x.purse(0, 0), -2);
        Due.is("purse(0, 100001)", x.purse(0, 100001), -2);
        for (int i = 1; i <= 10; i++) {
            Due.is("purse(0, 100000)", x.purse(0, 100000), i * 100000);
        }
        Due.is("a million and 1", x.purse(0, 1), -2);
        Due.is("a million and 100000", x.purse(0, 100000), -2);
        Due.is("about(0, 2)", x.about(0, 2), 1000000);
    }

    /** What was paid out leaves room in the purse again. */
    private static void purseSpentAndFilled() {
        WardWatch x = new WardWatch();
        Due.tellLaws(x, 0, "fine 9999;", 1);
        x.house(0, 1620);
        x.would(0, PAY);
        for (int i = 0; i < 10; i++) {
            x.purse(0, 100000);
        }
        Due.is("fill(0, 1650)", x.fill(0, 1650), -1);
        Due.is("purse(0, 10000)", x.purse(0, 10000), -2);
        Due.is("purse(0, 9999)", x.purse(0, 9999), 1000000);
        Due.is("count(10)", x.count(10), 9999);
    }

    /** "YEARS 1600 .. 1799", "(the first one: told ..)" */
    private static void firstYears() {
        WardWatch x = new WardWatch();
        for (int year : new int[] {-1, 1599, 1800, 0, Integer.MIN_VALUE, Integer.MAX_VALUE}) {
            Due.is("fill(1, " + year + ")", x.fill(1, year), -2);
            Due.is("count(31)", x.count(31), -1);
        }
        Due.is("fill(1, 1600)", x.fill(1, 1600), -1);
        Due.is("fill(2, 1799)", x.fill(2, 1799), -1);
        Due.is("count(31)", x.count(31), 1600);
        Due.is("count(32)", x.count(32), 1799);
        Due.is("fill(3, -1) behind the others' first", x.fill(3, -1), -2);
        Due.is("fill(4, 1600)", x.fill(4, 1600), -2);
        Due.is("fill(-1, 1600)", x.fill(-1, 1600), -2);
    }

    /** "the next ones: NONE, or as it comes", "RANGE: .. YEAR (not the next one ..)" */
    private static void oneAfterTheOther() {
        WardWatch x = new WardWatch();
        Due.tellLaws(x, 0, "leave 0;", 1);
        x.house(0, 1620);
        x.house(0, 1620);
        Due.is("fill(0, 1650)", x.fill(0, 1650), 0);
        for (int year : new int[] {1649, 1650, 1652, 0, -2, 1600, 1799}) {
            Due.is("fill(0, " + year + ")", x.fill(0, year), -2);
            Due.is("count(30)", x.count(30), 1650);
        }
        houseIs(x, 0, 0, 1650, 1);
        houseIs(x, 1, 0, -1, 0);
        Due.is("fill(0, 1651)", x.fill(0, 1651), 1);
        Due.is("fill(0, NONE)", x.fill(0, -1), 0);
        Due.is("count(30)", x.count(30), 1652);
    }

    /** "RANGE: .. YEAR (.. above 1799)" */
    private static void lastYear() {
        WardWatch x = new WardWatch();
        Due.tellLaws(x, 0, "leave 0;", 1);
        x.house(0, 1760);
        Due.is("fill(0, 1798)", x.fill(0, 1798), 0);
        Due.is("fill(0, NONE)", x.fill(0, -1), 0);
        for (int year : new int[] {-1, 1800, 1799, 1600}) {
            Due.is("fill(0, " + year + ") behind 1799", x.fill(0, year), -2);
        }
        houseIs(x, 0, 0, 1799, 2);
        Due.is("count(30)", x.count(30), 1799);
        yearIs(x, 0, 1799, 0, 0, 0);
        yearIs(x, 0, 1800, -9, -9, -9);
    }

    /** Every YEAR 1600 .. 1799 of one ward, each kept. */
    private static void allYears() {
        WardWatch x = new WardWatch();
        Due.tellLaws(x, 0, "leave 0; age 0 99;", 2);
        for (int h = 0; h < 3; h++) {
            x.house(0, h == 2 ? 1700 : 1600);
        }
        for (int year = 1600; year <= 1799; year++) {
            x.fill(0, year == 1600 ? year : -1);
        }
        Due.is("count(30)", x.count(30), 1799);
        for (int year = 1600; year < 1700; year++) {
            Due.is("year(0, " + year + ", 0)", x.year(0, year, 0), year % 2);
        }
        Due.is("year(0, 1700, 0)", x.year(0, 1700, 0), 2);
        Due.is("year(0, 1799, 0)", x.year(0, 1799, 0), 2);
        Due.is("year(0, 1599, 0)", x.year(0, 1599, 0), -9);
    }

    /** "of an age .. from .. to as age tells": 21 60 while it isn't told. */
    private static void firstAges() {
        int[] born = {1630, 1629, 1590, 1589};
        int[] due = {-1, 0, 0, -1};
        for (int i = 0; i < born.length; i++) {
            WardWatch x = new WardWatch();
            x.house(0, born[i]);
            Due.is("at the age of " + (1650 - born[i]), x.fill(0, 1650), due[i]);
        }
    }

    /** "(the YEAR less the one in which they were born)": 0 in the year of birth, not of age ahead of it. */
    private static void ageZero() {
        WardWatch x = new WardWatch();
        Due.tellLaws(x, 0, "age 0 0; leave 0;", 2);
        x.house(0, 1651);
        Due.is("ahead of the birth", x.fill(0, 1650), -1);
        Due.is("in the year of it", x.fill(0, -1), 0);
        Due.is("a year old", x.fill(0, -1), -1);
    }

    /** "N of age 0 .. 99" */
    private static void oldest() {
        WardWatch x = new WardWatch();
        Due.tellLaws(x, 0, "age 99 99; leave 0;", 2);
        x.house(0, 1502);
        Due.is("at the age of 98", x.fill(0, 1600), -1);
        Due.is("at the age of 99", x.fill(0, -1), 0);
        Due.is("at the age of 100", x.fill(0, -1), -1);
    }

    /** "not on LEAVE: who served .. in one of the leave YEARS ahead", for the most that can be told and for 1. */
    private static void mostLeave() {
        for (int leave : new int[] {0, 1, 30}) {
            WardWatch x = new WardWatch();
            Due.tellLaws(x, 0, "leave " + leave + ";", 1);
            x.house(0, 1625);
            Due.is("fill(0, 1650)", x.fill(0, 1650), 0);
            for (int i = 1; i <= leave; i++) {
                Due.is("on leave " + i + " of " + leave, x.fill(0, -1), -1);
            }
            Due.is("behind a leave of " + leave, x.fill(0, -1), 0);
            houseIs(x, 0, 0, 1651 + leave, 2);
        }
    }

    /** "who served (or hired one, or paid)" */
    private static void leaveOfThoseWhoHireOrPay() {
        for (int would = SERVE; would <= PAY; would++) {
            WardWatch x = new WardWatch();
            Due.tellLaws(x, 0, "leave 2; hire 5; fine 5;", 3);
            addHouse(x, 0, 1620, would, 10);
            int constable = would == PAY ? -1 : 0;
            Due.is("fill(0, 1650)", x.fill(0, 1650), constable);
            Due.is("fill(0, 1651)", x.fill(0, 1651), -1);
            Due.is("fill(0, 1652)", x.fill(0, 1652), -1);
            houseIs(x, 0, would == SERVE ? 10 : 5, 1650, 1);
            Due.is("fill(0, 1653)", x.fill(0, 1653), constable);
            houseIs(x, 0, would == SERVE ? 10 : 0, 1653, 2);
            Due.is("count(10)", x.count(10), would == PAY ? 10 : 0);
        }
    }

    /** The leave that is told when the YEAR is filled decides, not that of the YEAR of service. */
    private static void leaveOfThePresentLaws() {
        WardWatch x = new WardWatch();
        Due.tellLaws(x, 0, "leave 0;", 1);
        x.house(0, 1620);
        Due.is("fill(0, 1650)", x.fill(0, 1650), 0);
        Due.tellLaws(x, 0, "leave 1;", 1);
        Due.is("fill(0, 1651)", x.fill(0, 1651), -1);
        Due.is("fill(0, 1652)", x.fill(0, 1652), 0);
    }

    /** "behind the last one the first again" */
    private static void behindTheLastOne() {
        WardWatch x = new WardWatch();
        Due.tellLaws(x, 1, "leave 0;", 1);
        x.house(0, 1620);
        x.house(1, 1620);
        x.house(1, 1620);
        x.house(0, 1620);
        int[] due = {1, 2, 1, 2};
        for (int i = 0; i < due.length; i++) {
            Due.is("turn " + i, x.fill(1, i == 0 ? 1650 : -1), due[i]);
        }
        Due.is("a house comes behind the last", x.house(1, 1620), 4);
        Due.is("its turn", x.fill(1, -1), 4);
        Due.is("the first again", x.fill(1, -1), 1);
    }

    /** "The turn was last of the latest one that served, hired or paid", though the YEAR had none. */
    private static void turnOfAPayer() {
        WardWatch x = new WardWatch();
        Due.tellLaws(x, 0, "leave 0; age 21 60; fine 3;", 3);
        addHouse(x, 0, 1620, PAY, 3);
        addHouse(x, 0, 1630, SERVE, 0);
        addHouse(x, 0, 1630, SERVE, 0);
        Due.is("one pays, the others are too young", x.fill(0, 1650), -1);
        yearIs(x, 0, 1650, -1, 0, 1);
        Due.is("behind the one that paid", x.fill(0, -1), 1);
        yearIs(x, 0, 1651, 1, 0, 0);
    }

    /** Who was only looked at had no turn. */
    private static void turnStaysWithNobody() {
        WardWatch x = new WardWatch();
        Due.tellLaws(x, 0, "leave 0;", 1);
        x.house(0, 1620);
        x.house(0, 1620);
        x.house(0, 1635);
        Due.is("fill(0, 1650)", x.fill(0, 1650), 0);
        Due.tellLaws(x, 0, "age 90 99;", 1);
        Due.is("nobody of that age", x.fill(0, -1), -1);
        Due.tellLaws(x, 0, "leave 0;", 1);
        Due.is("behind 0", x.fill(0, -1), 1);
        Due.is("2 is too young", x.fill(0, -1), 0);
    }

    /** "A YEAR's CONSTABLE of a WARD": whose turn it was in another ward is of no account. */
    private static void wardsHaveTheirOwnTurns() {
        WardWatch x = new WardWatch();
        for (int h = 0; h < 8; h++) {
            x.house(h % 4, 1620);
        }
        for (int w = 3; w >= 0; w--) {
            Due.is("the first of " + w, x.fill(w, 1650), w);
            Due.is("the next of " + w, x.fill(w, -1), w + 4);
            Due.is("both on leave", x.fill(w, -1), -1);
        }
    }

    /** "HIRES (if hire is told and there is so much in the HOUSE's purse ..)" */
    private static void hireJustEnough() {
        String[] laws = {"hire 30;", "hire 30;", "hire 30;", "hire 0;", "fine 0;", "hire 9999;"};
        int[] pence = {29, 30, 31, 0, 100, 9999};
        int[] hired = {0, 1, 1, 1, 0, 1};
        int[] left = {29, 0, 1, 0, 100, 0};
        for (int i = 0; i < laws.length; i++) {
            WardWatch x = new WardWatch();
            Due.tellLaws(x, 0, laws[i], 1);
            addHouse(x, 0, 1620, HIRE, pence[i]);
            Due.is("fill(0, 1650) of " + laws[i], x.fill(0, 1650), 0);
            yearIs(x, 0, 1650, 0, hired[i], 0);
            houseIs(x, 0, left[i], 1650, 1);
            Due.is("count(10)", x.count(10), 0);
        }
    }

    /** "PAYS the fine (if the purse has as much: it goes to the WARD's chest ..)", "who can't .. pay SERVES" */
    private static void fineJustEnough() {
        String[] laws = {"fine 30;", "fine 30;", "fine 30;", "fine 0;", "hire 1;", "hire 1;", "fine 9999;"};
        int[] pence = {29, 30, 31, 0, 99, 100, 9999};
        int[] paid = {0, 30, 30, 0, 0, 100, 9999};
        boolean[] serves = {true, false, false, false, true, false, false};
        for (int i = 0; i < laws.length; i++) {
            WardWatch x = new WardWatch();
            Due.tellLaws(x, 3, laws[i], 1);
            addHouse(x, 3, 1620, PAY, pence[i]);
            Due.is("fill(3, 1650) of " + laws[i], x.fill(3, 1650), serves[i] ? 0 : -1);
            yearIs(x, 3, 1650, serves[i] ? 0 : -1, 0, serves[i] ? 0 : 1);
            houseIs(x, 0, pence[i] - paid[i], 1650, 1);
            Due.is("count(13)", x.count(13), paid[i]);
        }
    }

    /** "SERVES, or, as was told of the HOUSE, HIRES .., or PAYS": never another of these. */
    private static void asToldOfTheHouse() {
        WardWatch x = new WardWatch();
        Due.tellLaws(x, 0, "leave 0; hire 50; fine 10;", 3);
        addHouse(x, 0, 1620, HIRE, 40);
        Due.is("who can't hire doesn't pay", x.fill(0, 1650), 0);
        yearIs(x, 0, 1650, 0, 0, 0);
        Due.tellLaws(x, 0, "leave 0; hire 10; fine 50;", 3);
        Due.is("would(0, PAY)", x.would(0, PAY), HIRE);
        Due.is("who can't pay doesn't hire", x.fill(0, -1), 0);
        yearIs(x, 0, 1651, 0, 0, 0);
        Due.is("would(0, SERVE)", x.would(0, SERVE), PAY);
        Due.is("who serves keeps his purse", x.fill(0, -1), 0);
        yearIs(x, 0, 1652, 0, 0, 0);
        houseIs(x, 0, 40, 1652, 3);
    }

    /** "each HOUSE is looked at once a YEAR", though there is no leave and the purse has more. */
    private static void lookedAtOnce() {
        WardWatch x = new WardWatch();
        Due.tellLaws(x, 0, "leave 0; fine 10;", 2);
        addHouse(x, 0, 1620, PAY, 25);
        Due.is("alone", x.fill(0, 1650), -1);
        yearIs(x, 0, 1650, -1, 0, 1);
        addHouse(x, 0, 1620, PAY, 25);
        Due.is("both pay", x.fill(0, 1651), -1);
        yearIs(x, 0, 1651, -1, 0, 2);
        houseIs(x, 0, 5, 1651, 2);
        houseIs(x, 1, 15, 1651, 1);
        Due.is("1 pays first, as 0 was the last that paid; 0 can't", x.fill(0, 1652), 0);
        yearIs(x, 0, 1652, 0, 0, 1);
        Due.is("nor can 1", x.fill(0, 1653), 1);
        yearIs(x, 0, 1653, 1, 0, 0);
        Due.is("count(10)", x.count(10), 40);
    }

    /** "the YEAR goes on to the next HOUSE that can, on the same terms", "If nobody is left the YEAR has none." */
    private static void nobodyLeft() {
        WardWatch x = new WardWatch();
        Due.is("no house at all", x.fill(0, 1650), -1);
        x.house(1, 1620);
        Due.is("houses of another ward alone", x.fill(0, -1), -1);
        yearIs(x, 0, 1651, -1, 0, 0);
        Due.tellLaws(x, 1, "hire 4; fine 7;", 2);
        x.would(0, PAY);
        x.purse(0, 7);
        addHouse(x, 1, 1640, SERVE, 0);
        addHouse(x, 1, 1620, HIRE, 4);
        addHouse(x, 1, 1620, SERVE, 0);
        Due.is("one pays, one is too young, one hires", x.fill(1, 1650), 2);
        yearIs(x, 1, 1650, 2, 1, 1);
        Due.is("the last one", x.fill(1, -1), 3);
        Due.is("all others are on leave", x.fill(1, -1), -1);
        yearIs(x, 1, 1652, -1, 0, 0);
        Due.is("count(11)", x.count(11), 7);
    }

    /** "-9 when it isn't filled" */
    private static void yearsThatAreNot() {
        WardWatch x = new WardWatch();
        for (int year : new int[] {-1, 0, 1599, 1600, 1799, 1800}) {
            yearIs(x, 2, year, -9, -9, -9);
        }
        x.fill(2, 1700);
        x.fill(2, 1701);
        yearIs(x, 2, 1699, -9, -9, -9);
        yearIs(x, 2, 1700, -1, 0, 0);
        yearIs(x, 2, 1701, -1, 0, 0);
        yearIs(x, 2, 1702, -9, -9, -9);
        yearIs(x, 1, 1700, -9, -9, -9);
        yearIs(x, 4, 1700, -9, -9, -9);
        yearIs(x, -1, 1700, -9, -9, -9);
    }

    /** "NONE when there is none such" */
    private static void housesThatAreNot() {
        WardWatch x = new WardWatch();
        x.house(2, 1620);
        int[] due = {2, 1620, 0, 0, -1, 0};
        for (int what = 0; what < due.length; what++) {
            Due.is("about(0, " + what + ")", x.about(0, what), due[what]);
            Due.is("about(1, " + what + ")", x.about(1, what), -1);
            Due.is("about(-1, " + what + ")", x.about(-1, what), -1);
        }
        Due.is("about(0, 6)", x.about(0, 6), -1);
        Due.is("about(0, -1)", x.about(0, -1), -1);
        Due.is("purse(1, 5)", x.purse(1, 5), -2);
        Due.is("would(1, 1)", x.would(1, 1), -2);
        Due.is("would(0, 3)", x.would(0, 3), -2);
        Due.is("would(0, -1)", x.would(0, -1), -2);
        Due.is("would(0, 2)", x.would(0, 2), 0);
        Due.is("would(0, 2) again", x.would(0, 2), 2);
    }
}
