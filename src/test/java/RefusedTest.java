import java.util.ArrayList;
import java.util.LinkedHashMap;
import java.util.List;
import java.util.Map;

/**
 * A call that is refused (RANGE, FULL, NONE, -9) changes nothing: two objects live through the same calls, one of them
 * through a refused one more, and then each asked for everything answers alike. Each object stays under its 512 calls.
 */
public final class RefusedTest {
    /** A call on an object. */
    private interface Call {
        long on(WardWatch x);
    }

    private static final int MOST = Integer.MAX_VALUE;
    private static final int LEAST = Integer.MIN_VALUE;
    private static final int[] NO_COURTS = {-1, 12, MOST, LEAST};
    private static final int[] NO_WARDS = {-1, 4, MOST, LEAST};

    private static final Map<String, Call> ranges = new LinkedHashMap<>();
    private static final Map<String, Call> nones = new LinkedHashMap<>();
    private static final Map<String, Call> noneSuch = new LinkedHashMap<>();

    public static void main(String[] args) {
        refusedOfCourts();
        refusedOfLaws();
        refusedOfRolls();
        refusedOfNights();
        refusedAsks();
        ranges.forEach((name, call) -> compare(name, call, -2));
        nones.forEach((name, call) -> compare(name, call, -1));
        noneSuch.forEach((name, call) -> compare(name, call, -9));
        compare("rounds(4095)", x -> x.rounds(4095), -3);
        compare("rounds(2047)", x -> x.rounds(2047), -3);
        tapeAloneIsEmptied();
        Due.end();
    }

    private static void refusedOfCourts() {
        for (int c : NO_COURTS) {
            ranges.put("court(" + c + ", 1, 9)", x -> x.court(c, 1, 9));
            ranges.put("way(" + c + ", 1, 9)", x -> x.way(c, 1, 9));
            ranges.put("way(1, " + c + ", 9)", x -> x.way(1, c, 9));
            ranges.put("far(" + c + ", 1)", x -> x.far(c, 1));
            ranges.put("far(1, " + c + ")", x -> x.far(1, c));
            ranges.put("cry(" + c + ", 9)", x -> x.cry(c, 9));
        }
        for (int ward : NO_WARDS) {
            ranges.put("court(1, " + ward + ", 9)", x -> x.court(1, ward, 9));
        }
        for (int within : new int[] {0, -1, 1000, MOST, LEAST}) {
            ranges.put("court(1, 2, " + within + ")", x -> x.court(1, 2, within));
        }
        for (int minutes : new int[] {0, -2, 100, MOST, LEAST}) {
            ranges.put("way(0, 1, " + minutes + ")", x -> x.way(0, 1, minutes));
        }
        for (int minutes : new int[] {-1, 1000, MOST, LEAST}) {
            ranges.put("cry(0, " + minutes + ")", x -> x.cry(0, minutes));
        }
        for (int set : new int[] {0, -1, 4096, 8191, MOST, LEAST}) {
            ranges.put("rounds(" + set + ")", x -> x.rounds(set));
        }
        ranges.put("way(3, 3, 9)", x -> x.way(3, 3, 9));
        ranges.put("way(3, 3, NONE)", x -> x.way(3, 3, -1));
    }

    private static void refusedOfLaws() {
        for (int n : new int[] {-1, 10, 801, MOST, LEAST}) {
            nones.put("end(" + n + ")", x -> x.end(n));
        }
        for (int ward : NO_WARDS) {
            ranges.put("may(" + ward + ", 0, 0)", x -> x.may(ward, 0, 0, true));
        }
        for (int power : new int[] {-1, 3, MOST, LEAST}) {
            ranges.put("may(0, " + power + ", 0)", x -> x.may(0, power, 0, true));
        }
        for (int hour : new int[] {-1, 24, MOST, LEAST}) {
            ranges.put("may(0, 0, " + hour + ")", x -> x.may(0, 0, hour, true));
        }
    }

    private static void refusedOfRolls() {
        for (int ward : NO_WARDS) {
            ranges.put("house(" + ward + ", 1700)", x -> x.house(ward, 1700));
            ranges.put("fill(" + ward + ", 1702)", x -> x.fill(ward, 1702));
        }
        for (int born : new int[] {-1, 0, 1499, 1800, MOST, LEAST}) {
            ranges.put("house(0, " + born + ")", x -> x.house(0, born));
        }
        for (int h : new int[] {-1, 3, 60, MOST, LEAST}) {
            ranges.put("purse(" + h + ", 5)", x -> x.purse(h, 5));
            ranges.put("would(" + h + ", 1)", x -> x.would(h, 1));
        }
        for (int pence : new int[] {0, -1, 100001, MOST, LEAST}) {
            ranges.put("purse(0, " + pence + ")", x -> x.purse(0, pence));
        }
        ranges.put("purse(2, 1) of a full purse", x -> x.purse(2, 1));
        for (int what : new int[] {-1, 3, MOST, LEAST}) {
            ranges.put("would(0, " + what + ")", x -> x.would(0, what));
        }
        for (int year : new int[] {1699, 1700, 1701, 1703, 1800, 0, -2, MOST, LEAST}) {
            ranges.put("fill(0, " + year + ")", x -> x.fill(0, year));
        }
        for (int year : new int[] {-1, 1599, 1800, MOST, LEAST}) {
            ranges.put("fill(2, " + year + ") first", x -> x.fill(2, year));
        }
        ranges.put("fill(3, NONE) behind 1799", x -> x.fill(3, -1));
        ranges.put("fill(3, 1800)", x -> x.fill(3, 1800));
    }

    private static void refusedOfNights() {
        for (int ward : NO_WARDS) {
            ranges.put("charge(" + ward + ", 0, 0)", x -> x.charge(ward, 0, 0, true));
        }
        for (int power : new int[] {-1, 3, MOST, LEAST}) {
            ranges.put("charge(0, " + power + ", 0)", x -> x.charge(0, power, 0, true));
        }
        for (int hour : new int[] {-1, 24, MOST, LEAST}) {
            ranges.put("charge(0, 0, " + hour + ")", x -> x.charge(0, 0, hour, true));
        }
        for (int n : new int[] {-1, 16, MOST, LEAST}) {
            ranges.put("doubt(" + n + ", ..)", x -> x.doubt(n, 1, 1, 1, 0));
        }
        ranges.put("doubt of nothing", x -> x.doubt(0, 0, 0, 0, 0));
    }

    private static void refusedAsks() {
        for (int what : new int[] {-1, 9, 22, 29, 34, 54, MOST, LEAST}) {
            noneSuch.put("round(" + what + ")", x -> x.round(what));
            noneSuch.put("law(0, " + what + ")", x -> x.law(0, what));
            noneSuch.put("fled(" + what + ")", x -> x.fled(what));
            nones.put("fault(" + what + ")", x -> x.fault(what));
            nones.put("about(0, " + what + ")", x -> x.about(0, what));
            nones.put("charged(0, " + what + ")", x -> x.charged(0, what));
            nones.put("about(" + what + ", 0)", x -> x.about(what, 0));
            nones.put("charged(" + what + ", 0)", x -> x.charged(what, 0));
        }
        for (int what : new int[] {-1, 3, 9, 14, 19, 24, 29, 34, MOST, LEAST}) {
            nones.put("count(" + what + ")", x -> x.count(what));
        }
        for (int ward : NO_WARDS) {
            noneSuch.put("law(" + ward + ", 0)", x -> x.law(ward, 0));
            noneSuch.put("year(" + ward + ", 1700, 0)", x -> x.year(ward, 1700, 0));
        }
        for (int year : new int[] {-1, 1699, 1702, MOST, LEAST}) {
            noneSuch.put("year(0, " + year + ", 0)", x -> x.year(0, year, 0));
        }
    }

    private static void compare(String name, Call refused, int due) {
        WardWatch without = lived();
        WardWatch with = lived();
        Due.is(name, refused.on(with), due);
        alike(name, all(without), all(with));
    }

    private static void alike(String name, List<Long> without, List<Long> with) {
        Due.is(name + ": as many answers", with.size(), without.size());
        for (int i = 0; i < without.size() && i < with.size(); i++) {
            Due.is(name + ": answer " + i + " behind it", with.get(i), without.get(i));
        }
    }

    /** "THE TAPE (read, and empty then)": a text for no such ward, and no such row, change nothing else. */
    private static void tapeAloneIsEmptied() {
        for (int ward : NO_WARDS) {
            WardWatch without = lived();
            WardWatch with = lived();
            Due.is("end(0)", without.end(0), 0);
            Due.is("laws(" + ward + ")", with.laws(ward), -2);
            alike("laws(" + ward + ")", all(without), all(with));
        }
        WardWatch without = lived();
        WardWatch with = lived();
        Due.is("end(0)", without.end(0), 0);
        Due.is("flee of no row", with.flee(true), -1);
        alike("flee of no row", all(without), all(with));
    }

    /** A book in which something of everything was told. */
    private static WardWatch lived() {
        WardWatch x = new WardWatch();
        for (int c = 0; c < 9; c++) {
            x.court(c, c % 4, 20 + 9 * c);
            x.way(c, c + 1, 3 + 2 * c);
        }
        x.way(0, 5, 11);
        Due.tellLaws(x, 0, "leave 0;fine 30;lockup 1;power stop from 22 to 3;follow 40;", 5);
        Due.tellLaws(x, 1, "hire 9;follow 20 cry;power enter from 0 to 12 cry;", 3);
        Due.tellLaws(x, 3, "age 18 70;lockup 2;", 2);
        Due.lay(x, "ABCDE");
        Due.is("flee", x.flee(true), 2);
        Due.is("rounds", x.rounds(0b1011111), 3);
        x.house(0, 1660);
        x.house(1, 1660);
        x.house(0, 1670);
        x.would(0, 2);
        x.would(1, 1);
        x.purse(0, 100);
        x.purse(1, 10);
        for (int i = 0; i < 10; i++) {
            x.purse(2, 100000);
        }
        Due.is("fill(0, 1700)", x.fill(0, 1700), 2);
        Due.is("fill(0, 1701)", x.fill(0, 1701), 2);
        Due.is("fill(1, 1650)", x.fill(1, 1650), -1);
        Due.is("fill(3, 1799)", x.fill(3, 1799), -1);
        int[] hours = {22, 23, 3, 4};
        for (int k = 0; k < hours.length; k++) {
            Due.is("charge " + k, x.charge(0, 0, hours[k], true), k);
        }
        Due.faulty(x, 2, "fine 5; fine", 3, 8);
        Due.lay(x, "fine 123;");
        return x;
    }

    /** What an object answers; those calls come last that change what others answer. */
    private static List<Long> all(WardWatch x) {
        List<Long> answers = new ArrayList<>();
        for (int what : new int[] {0, 1, 2, 10, 11, 12, 13, 20, 21, 22, 23, 30, 31, 32, 33}) {
            answers.add((long) x.count(what));
        }
        allRounds(x, answers);
        allLaws(x, answers);
        allRolls(x, answers);
        answers.add((long) x.fled(0));
        answers.add((long) x.fled(1));
        for (int k = 0; k < 4; k++) {
            for (int what = 0; what < 5; what++) {
                answers.add((long) x.charged(k, what));
            }
        }
        for (int c = 0; c < 12; c++) {
            answers.add((long) x.far(c, 4));
            answers.add((long) x.cry(c, 15));
        }
        answers.add((long) x.laws(2));
        answers.add((long) x.law(2, 3));
        for (int set : new int[] {1023, 0b110011, 0b1100110}) {
            answers.add((long) x.rounds(set));
            allRounds(x, answers);
        }
        for (String row : new String[] {"ABCDEFGHI", "FABCDE"}) {
            Due.lay(x, row);
            answers.add((long) x.flee(true));
        }
        for (int w = 0; w < 4; w++) {
            answers.add((long) x.fill(w, w == 2 ? 1600 : -1));
            answers.add((long) x.charge(w, 0, 0, true));
            answers.add((long) x.count(10 + w));
        }
        answers.add((long) x.morning());
        return answers;
    }

    private static void allRounds(WardWatch x, List<Long> answers) {
        answers.add((long) x.round(0));
        for (int c = 0; c < 12; c++) {
            answers.add((long) x.round(10 + c));
        }
        for (int m = 0; m < 4; m++) {
            answers.add((long) x.round(30 + m));
            answers.add((long) x.round(50 + m));
        }
    }

    private static void allLaws(WardWatch x, List<Long> answers) {
        answers.add((long) x.fault(0));
        answers.add((long) x.fault(1));
        for (int w = 0; w < 4; w++) {
            for (int what = 0; what <= 8; what++) {
                answers.add((long) x.law(w, what));
            }
            for (int power = 0; power < 3; power++) {
                answers.add((long) x.may(w, power, 3, true));
                answers.add((long) x.may(w, power, 4, false));
            }
        }
    }

    private static void allRolls(WardWatch x, List<Long> answers) {
        for (int h = 0; h < 3; h++) {
            for (int what = 0; what < 6; what++) {
                answers.add((long) x.about(h, what));
            }
        }
        for (int what = 0; what < 3; what++) {
            answers.add((long) x.year(0, 1700, what));
            answers.add((long) x.year(0, 1701, what));
            answers.add((long) x.year(1, 1650, what));
            answers.add((long) x.year(2, 1600, what));
            answers.add((long) x.year(3, 1799, what));
        }
    }
}
