/** The edges that the document names in part II, for promises 2, 3 and 10 to 13; a method quotes its sentence, or says it. */
public final class LawEdgesTest {
    private static final String POWER = "power hold from 1 to 2;";
    private static final int BLANKS = 0x20202020;

    public static void main(String[] args) {
        fullTape();
        firstBytesAlone();
        bytesCutOffAreNotRead();
        textsOfAllTheTape();
        emptyTexts();
        blanksAnywhere();
        numbersOfFourDigits();
        boundsOfNumbers();
        secondOfAge();
        twiceOnlyWhereALineBegins();
        leastKindOfOneToken();
        firstFaultOfTwo();
        placeAtTheEnd();
        twelvePowers();
        noThirteenth();
        untoldAgain();
        overMidnight();
        bothHours();
        withoutCry();
        faultsOfTheLatest();
        Due.end();
    }

    private static int feedBlanks(WardWatch x) {
        return x.feed(BLANKS, BLANKS, BLANKS, BLANKS, BLANKS);
    }

    private static String padded(String text, int length) {
        return text + " ".repeat(length - text.length());
    }

    /** "FULL when there would be more than 800": and then the tape is as it was. */
    private static void fullTape() {
        WardWatch x = new WardWatch();
        Due.lay(x, padded("leave 3;", 800));
        Due.is("feed of a full tape", x.feed(0, 0, 0, 0, 0), -3);
        Due.is("count(2)", x.count(2), 800);
        Due.is("its bytes stay", x.laws(0), 1);
        Due.is("law(0, 2)", x.law(0, 2), 3);
        for (int length = 780; length <= 800; length++) {
            WardWatch y = new WardWatch();
            Due.lay(y, padded("", length));
            Due.is("feed behind " + length, feedBlanks(y), length == 780 ? 800 : -3);
            Due.is("count(2)", y.count(2), length == 780 ? 800 : length);
        }
    }

    /** "n; NONE when it has not so many, or n is below 0" */
    private static void firstBytesAlone() {
        WardWatch x = new WardWatch();
        Due.is("end(0) of an empty tape", x.end(0), 0);
        Due.is("end(1) of an empty tape", x.end(1), -1);
        Due.is("end(-1) of an empty tape", x.end(-1), -1);
        Due.lay(x, padded("", 800));
        Due.is("end(801)", x.end(801), -1);
        Due.is("end(-1)", x.end(-1), -1);
        Due.is("count(2)", x.count(2), 800);
        Due.is("end(800)", x.end(800), 800);
        Due.is("end(799)", x.end(799), 799);
        Due.is("end(800) behind end(799)", x.end(800), -1);
        Due.is("count(2)", x.count(2), 799);
    }

    /** "THE TAPE has its first n bytes alone": what is fed later comes behind these. */
    private static void bytesCutOffAreNotRead() {
        WardWatch x = new WardWatch();
        Due.lay(x, "leave 12;");
        Due.is("end(7)", x.end(7), 7);
        Due.is("laws(0) of \"leave 1\"", x.laws(0), -1);
        Due.is("fault(1)", x.fault(1), 7);
        Due.lay(x, "leave 12;");
        x.end(7);
        Due.is("feed of \";fine 5; \"", x.feed(0x3b66696e, 0x6520353b, BLANKS, BLANKS, BLANKS), 27);
        Due.is("laws(0)", x.laws(0), 2);
        Due.is("law(0, 2)", x.law(0, 2), 1);
        Due.is("law(0, 3)", x.law(0, 3), 5);
    }

    /** "THE TAPE has at most 800 bytes": a text may fill it. */
    private static void textsOfAllTheTape() {
        WardWatch x = new WardWatch();
        Due.tellLaws(x, 0, padded("", 793) + "fine 8;", 1);
        Due.is("law(0, 3)", x.law(0, 3), 8);
        Due.faulty(x, 0, padded("", 793) + "fine 88", 1, 800);
        Due.faulty(x, 0, padded("fine 8", 800), 1, 800);
        Due.faulty(x, 0, padded("fine 8;", 799) + "?", 1, 799);
        Due.faulty(x, 0, "a".repeat(800), 1, 0);
        Due.faulty(x, 0, "1".repeat(800), 1, 0);
    }

    /** text = {line ";"}: no line at all is a text. */
    private static void emptyTexts() {
        WardWatch x = new WardWatch();
        for (String text : new String[] {"", " ", "\n", " \n\n  "}) {
            Due.tellLaws(x, 3, "leave 9;", 1);
            Due.tellLaws(x, 3, text, 0);
            Due.is("law(3, 2) as if not told", x.law(3, 2), 7);
        }
        Due.faulty(x, 3, ";", 1, 0);
        Due.faulty(x, 3, "leave 9;;", 1, 8);
    }

    /** "TOKENS with any blanks (32, 10) between": none, where a token ends by itself; no other byte. */
    private static void blanksAnywhere() {
        WardWatch x = new WardWatch();
        Due.tellLaws(x, 0, "\n age\n3 \n 5\n;\n", 1);
        Due.tellLaws(x, 0, "power enter from3to5cry;leave0;", 2);
        for (int b : new int[] {0, 9, 11, 12, 13, 31, 33, 127, 128, 160, 255}) {
            Due.faulty(x, 0, "leave " + (char) b + "1;", 1, 6);
        }
        Due.faulty(x, 0, "ag e 3 5;", 1, 0);
        Due.faulty(x, 0, "age 3 5; lea ve 1;", 1, 9);
        Due.tellLaws(x, 0, "age 3 5;", 1);
        Due.faulty(x, 0, "age 35;", 1, 6);
    }

    /** "NUMBERS (digits, as many as there are, 4 at most)", "a NUMBER of five digits" is SYNTAX. */
    private static void numbersOfFourDigits() {
        WardWatch x = new WardWatch();
        Due.tellLaws(x, 0, "fine 9999;", 1);
        Due.is("law(0, 3)", x.law(0, 3), 9999);
        Due.tellLaws(x, 0, "fine 0000; leave 0030; lockup 0020;", 3);
        Due.is("law(0, 7)", x.law(0, 7), 20);
        Due.faulty(x, 0, "fine 10000;", 1, 5);
        Due.faulty(x, 0, "fine 00000;", 1, 5);
        Due.faulty(x, 0, "fine 00001;", 1, 5);
        Due.faulty(x, 0, "leave 0031;", 2, 6);
        Due.faulty(x, 0, "leave 00031;", 1, 6);
    }

    /** "H 0 .. 23, N of age 0 .. 99, of leave 0 .. 30, of fine, hire 0 .. 9999, of follow 0 .. 999, of lockup 0 .. 20" */
    private static void boundsOfNumbers() {
        String[] lines = {"age N 99;", "age 0 N;", "leave N;", "fine N;", "hire N;", "follow N;", "lockup N;"};
        int[] most = {99, 99, 30, 9999, 9999, 999, 20};
        int[] what = {0, 1, 2, 3, 4, 5, 7};
        WardWatch x = new WardWatch();
        for (int i = 0; i < lines.length; i++) {
            int place = lines[i].indexOf('N');
            for (int n : new int[] {0, most[i]}) {
                Due.tellLaws(x, i % 4, lines[i].replace("N", "" + n), 1);
                Due.is("law of " + lines[i] + " with " + n, x.law(i % 4, what[i]), n);
            }
            boolean isFive = most[i] == 9999;
            Due.faulty(x, i % 4, lines[i].replace("N", "" + (most[i] + 1)), isFive ? 1 : 2, place);
            Due.is("the laws stay", x.law(i % 4, what[i]), most[i]);
        }
        Due.tellLaws(x, 0, "power stop from 0 to 23; power stop from 23 to 0;", 2);
        Due.faulty(x, 0, "power stop from 24 to 0;", 2, 16);
        Due.faulty(x, 0, "power stop from 0 to 24;", 2, 21);
    }

    /** "the second of age below the first" */
    private static void secondOfAge() {
        WardWatch x = new WardWatch();
        Due.tellLaws(x, 0, "age 0 0;", 1);
        Due.tellLaws(x, 0, "age 99 99;", 1);
        Due.tellLaws(x, 0, "age 40 40;", 1);
        Due.faulty(x, 0, "age 40 39;", 2, 7);
        Due.faulty(x, 0, "age 1 0;", 2, 6);
        Due.faulty(x, 0, "age 99 100;", 2, 7);
        Due.faulty(x, 0, "age 100 100;", 2, 4);
        Due.is("law(0, 0)", x.law(0, 0), 40);
    }

    /** "3 TWICE: a second line of its kind, at its WORD": elsewhere the word is SYNTAX. */
    private static void twiceOnlyWhereALineBegins() {
        WardWatch x = new WardWatch();
        Due.faulty(x, 0, "leave 1; leave 1;", 3, 9);
        Due.faulty(x, 0, "leave 1 leave 1;", 1, 8);
        Due.faulty(x, 0, "leave 1; fine leave;", 1, 14);
        Due.faulty(x, 0, "leave leave 1;", 1, 6);
        Due.faulty(x, 0, "leave 1; leave", 3, 9);
        Due.tellLaws(x, 0, "leave 1;", 1);
        Due.tellLaws(x, 0, "leave 2;", 1);
        Due.tellLaws(x, 0, POWER + POWER, 2);
        Due.is("a power's line may come again", x.law(0, 8), 2);
    }

    /** "of one TOKEN the least KIND": a number that no text goes on with is SYNTAX, whatever its bounds. */
    private static void leastKindOfOneToken() {
        WardWatch x = new WardWatch();
        Due.faulty(x, 0, "leave 1 9999;", 1, 8);
        Due.faulty(x, 0, "9999;", 1, 0);
        Due.faulty(x, 0, "leave 12345;", 1, 6);
        Due.faulty(x, 0, "power 99 from 1 to 2;", 1, 6);
        Due.faulty(x, 0, POWER.repeat(12) + "leave power;", 1, 12 * POWER.length() + 6);
    }

    /** "the first come to as TOKENS are read one by one" */
    private static void firstFaultOfTwo() {
        WardWatch x = new WardWatch();
        Due.faulty(x, 0, "leave 31 ?", 2, 6);
        Due.faulty(x, 0, "leave ? 31;", 1, 6);
        Due.faulty(x, 0, "leave 1; leave 31;", 3, 9);
        Due.faulty(x, 0, "leave 31; leave 1;", 2, 6);
        Due.faulty(x, 0, POWER.repeat(12) + "fine 1; fine 1;" + POWER, 3, 12 * POWER.length() + 8);
        Due.faulty(x, 0, "fine 1;" + POWER.repeat(13) + "fine 1;", 4, 7 + 12 * POWER.length());
    }

    /** "a TOKEN's first byte; the text's length at its end" */
    private static void placeAtTheEnd() {
        WardWatch x = new WardWatch();
        String line = "power stop from 1 to 2 cry";
        for (int length = 1; length <= line.length(); length++) {
            String begun = line.substring(0, length);
            boolean isWhole = length == 5 || length == 10 || length == 15 || length == 17 || length == 20
                    || length == 22 || length == 26 || begun.endsWith(" ");
            if (isWhole) {
                Due.faulty(x, 0, begun, 1, length);
                Due.faulty(x, 0, begun + " \n", 1, length + 2);
            } else {
                Due.faulty(x, 0, begun, 1, begun.lastIndexOf(' ') + 1);
            }
        }
        Due.tellLaws(x, 0, line + ";", 1);
    }

    /** "At most 12 lines of power": the twelfth one gives as the first one does. */
    private static void twelvePowers() {
        WardWatch x = new WardWatch();
        StringBuilder text = new StringBuilder();
        for (int hour = 0; hour < 24; hour += 2) {
            text.append("power enter from ").append(hour).append(" to ").append(hour).append(';');
        }
        Due.tellLaws(x, 2, text.toString(), 12);
        Due.is("law(2, 8)", x.law(2, 8), 12);
        for (int hour = 0; hour < 24; hour++) {
            Due.is("may at " + hour, x.may(2, 2, hour, false), hour % 2 == 0 ? 1 : 0);
        }
    }

    /** "4 ROOM: the 13th power, at its WORD", "NONE with a FAULT (the LAWS stay)" */
    private static void noThirteenth() {
        WardWatch x = new WardWatch();
        Due.tellLaws(x, 1, "power stop from 5 to 5;", 1);
        Due.faulty(x, 1, POWER.repeat(12) + " power stop from 9 to 9;", 4, 12 * POWER.length() + 1);
        Due.faulty(x, 1, "leave 1;" + POWER.repeat(12) + "fine 2;power", 4, 15 + 12 * POWER.length());
        Due.is("law(1, 8)", x.law(1, 8), 1);
        Due.is("law(1, 2)", x.law(1, 2), 7);
        Due.is("may(1, 0, 5)", x.may(1, 0, 5, false), 1);
        Due.is("may(1, 1, 1)", x.may(1, 1, 1, true), 0);
    }

    /** "What isn't told: age 21 60, leave 7, fine 100, hire: none .., follow: nobody .., lockup 4, no power." */
    private static void untoldAgain() {
        WardWatch x = new WardWatch();
        String[] lines = {"age 1 2;", "leave 1;", "fine 1;", "hire 1;", "follow 1 cry;", "lockup 1;", POWER};
        int[] first = {21, 60, 7, 100, -1, -1, 0, 4, 0};
        int[] told = {1, 2, 1, 1, 1, 1, 1, 1, 1};
        int[] lineOf = {0, 0, 1, 2, 3, 4, 4, 5, 6};
        for (int line = 0; line < lines.length; line++) {
            Due.tellLaws(x, 3, String.join("", lines), 7);
            Due.tellLaws(x, 3, lines[line], 1);
            for (int what = 0; what < first.length; what++) {
                Due.is("law(3, " + what + ") of " + lines[line], x.law(3, what),
                        lineOf[what] == line ? told[what] : first[what]);
            }
        }
    }

    /** "over midnight, if to is below from; both hours with it" */
    private static void overMidnight() {
        hoursAre("from 23 to 0", 1 << 23 | 1);
        hoursAre("from 22 to 1", 3 << 22 | 3);
        hoursAre("from 1 to 0", (1 << 24) - 1);
        hoursAre("from 23 to 22", (1 << 24) - 1);
        hoursAre("from 13 to 11", (1 << 24) - 1 ^ 1 << 12);
    }

    /** "has the hour from .. to (..; both hours with it)" */
    private static void bothHours() {
        hoursAre("from 0 to 23", (1 << 24) - 1);
        hoursAre("from 0 to 0", 1);
        hoursAre("from 23 to 23", 1 << 23);
        hoursAre("from 12 to 12", 1 << 12);
        hoursAre("from 12 to 13", 3 << 12);
        hoursAre("from 0 to 1", 3);
        hoursAre("from 22 to 23", 3 << 22);
    }

    private static void hoursAre(String hours, int due) {
        WardWatch x = new WardWatch();
        Due.tellLaws(x, 0, "power hold " + hours + ";", 1);
        for (int hour = 0; hour < 24; hour++) {
            Due.is("may at " + hour + " of " + hours, x.may(0, 1, hour, false), due >> hour & 1);
        }
        Due.is("may at -1 of " + hours, x.may(0, 1, -1, false), -2);
        Due.is("may at 24 of " + hours, x.may(0, 1, 24, false), -2);
    }

    /** "if some line of it has the hour .., and, if it tells cry, there was a CRY" */
    private static void withoutCry() {
        WardWatch x = new WardWatch();
        Due.tellLaws(x, 0, "power stop from 3 to 4 cry; power stop from 4 to 5;", 2);
        int[] uncried = {0, 0, 0, 0, 1, 1, 0};
        int[] cried = {0, 0, 0, 1, 1, 1, 0};
        for (int hour = 0; hour < uncried.length; hour++) {
            Due.is("may at " + hour, x.may(0, 0, hour, false), uncried[hour]);
            Due.is("may at " + hour + ", cried", x.may(0, 0, hour, true), cried[hour]);
        }
        Due.is("another ward", x.may(3, 0, 4, true), 0);
        Due.is("another power", x.may(0, 1, 4, true), 0);
    }

    /** "Of the latest laws() that was not RANGE, .. KIND, 0 without (and ahead of any), 1: its PLACE (NONE)" */
    private static void faultsOfTheLatest() {
        WardWatch x = new WardWatch();
        Due.is("fault(0) ahead of any", x.fault(0), 0);
        Due.is("fault(1) ahead of any", x.fault(1), -1);
        Due.is("laws(4)", x.laws(4), -2);
        Due.is("fault(0) ahead of any but RANGE", x.fault(0), 0);
        Due.faulty(x, 0, "?", 1, 0);
        Due.faulty(x, 3, "fine 1; fine", 3, 8);
        Due.lay(x, "?");
        Due.is("laws(-1)", x.laws(-1), -2);
        Due.is("fault(0)", x.fault(0), 3);
        Due.is("fault(1)", x.fault(1), 8);
        Due.is("fault(2)", x.fault(2), -1);
        Due.is("fault(-1)", x.fault(-1), -1);
        Due.tellLaws(x, 1, "", 0);
    }
}
