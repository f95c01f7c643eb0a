import java.math.BigInteger;
import java.util.ArrayList;
import java.util.Arrays;
import java.util.Collections;
import java.util.List;
import java.util.Map;
import java.util.Random;
import java.util.TreeMap;
import java.util.regex.Matcher;
import java.util.regex.Pattern;

/**
 * Promises 1 to 26 together: long runs of all calls, mixed, against a whole book written anew from the
 * document. The other tests each look at one part; here each part's state meets that of all others.
 */
public final class BookTest {
    // The longest step is some 45 calls, and behind the 512th one nothing is due.
    private static final int LAST_STEP = 512 - 50;
    // A kind of line a row: one of each row is a text without a fault.
    private static final String[][] GOOD = {{"age 18 70;", "age 0 99;", "age 30 30;"}, {"leave 0;", "leave 2;",
        "leave 30;"}, {"fine 0;", "fine 40;", "fine 9999;", "\n fine  7\n;"}, {"hire 0;", "hire 25;"}, {"follow 0;",
        "follow 9;", "follow 30 cry;", "follow 999;"}, {"lockup 0;", "lockup 1;", "lockup 2;", "lockup 20 ;"}};
    private static final String[] POWERS = {"power stop from 22 to 5;", "power hold from 0 to 23;",
        "power enter from 9 to 9 cry;", "power hold from 4 to 3 cry;", "power enter from 0 to 23;",
        "power stop from 6 to 20;"};
    private static final String[] FAULTY = {"age 40 39;", "age 1;", "leave 31;", "fine 10000;", "hire;",
        "power stop from 6 to 24;", "power run from 1 to 2;", "follow 1000;", "follow cry;", "lockup 21;", "lockup2;",
        ";", "cry;", "age 20 50 cry;", "Fine 2;", "fine 2"};

    private final WardWatch x = new WardWatch();
    private final Book book = new Book();
    private final Random random;
    private final int seed;
    private int calls = 0;

    private BookTest(int seed) {
        this.seed = seed;
        random = new Random(seed);
    }

    public static void main(String[] args) {
        for (int seed = 0; seed < 1200; seed++) {
            new BookTest(seed).run();
        }
        Due.end();
    }

    private void run() {
        int many = random.nextInt(3);
        if (many == 0) {
            layTown();
        } else if (many == 1) {
            layHouses();
        }
        // Some runs keep to one kind of call for long, so that rooms get full.
        int often = random.nextInt(100);
        while (calls < LAST_STEP) {
            step(random.nextInt(3) == 0 ? often : random.nextInt(100));
        }
    }

    private void step(int dice) {
        if (dice < 8) {
            town();
        } else if (dice < 16) {
            rounds();
        } else if (dice < 24) {
            tellLaws();
        } else if (dice < 32) {
            asks();
        } else if (dice < 40) {
            house();
        } else if (dice < 58) {
            year();
        } else if (dice < 80) {
            night();
        } else if (dice < 88) {
            flight();
        } else if (dice < 90) {
            robbed();
        } else if (dice < 92) {
            tape();
        } else {
            counts();
        }
    }

    private void is(String call, long got, long want) {
        calls++;
        Due.is("run " + seed + ", call " + calls + ": " + call, got, want);
    }

    /** Mostly from .. to, now and then one that stands beside them. */
    private int pick(int from, int to) {
        int dice = random.nextInt(40);
        return dice == 0 ? from - 1 : dice == 1 ? to + 1 : from + random.nextInt(to - from + 1);
    }

    private int ward() {
        return pick(0, 3);
    }

    // ---- runs of calls

    private void layTown() {
        for (int c = 0; c < 12; c++) {
            court(c, random.nextInt(4), 1 + random.nextInt(150));
            way(c, (c + 1 + random.nextInt(11)) % 12, 1 + random.nextInt(20));
            way(c, (c + 1 + random.nextInt(11)) % 12, 1 + random.nextInt(20));
        }
    }

    private void layHouses() {
        for (int h = 0; h < 58; h++) {
            int ward = random.nextInt(4);
            int born = 1560 + random.nextInt(60);
            is("house", x.house(ward, born), book.house(ward, born));
        }
    }

    private void court(int c, int ward, int within) {
        is("court(" + c + ", " + ward + ", " + within + ")", x.court(c, ward, within), book.court(c, ward, within));
    }

    private void way(int c, int d, int minutes) {
        is("way(" + c + ", " + d + ", " + minutes + ")", x.way(c, d, minutes), book.way(c, d, minutes));
    }

    private void town() {
        court(pick(0, 11), ward(), pick(1, random.nextBoolean() ? 999 : 80));
        int c = pick(0, 11);
        int d = pick(0, 11);
        way(c, d, random.nextInt(6) == 0 ? -1 : pick(1, random.nextInt(4) == 0 ? 99 : 20));
        is("far(" + c + ", " + d + ")", x.far(c, d), book.far(c, d));
        int e = pick(0, 11);
        int minutes = pick(0, random.nextBoolean() ? 999 : 40);
        is("cry(" + e + ", " + minutes + ")", x.cry(e, minutes), book.cry(e, minutes));
    }

    private void rounds() {
        int set = random.nextInt(20) == 0 ? pick(-1, 4097) : 1 + random.nextInt(4095);
        while (Integer.bitCount(set) > 6 && Integer.bitCount(set) <= 10) {
            set &= set - 1;
        }
        is("rounds(" + set + ")", x.rounds(set), book.rounds(set));
        for (int i = 0; i < 3; i++) {
            int what = random.nextInt(5) == 0 ? 0 : 10 + 20 * random.nextInt(3) + random.nextInt(13);
            is("round(" + what + ")", x.round(what), book.round(what));
        }
    }

    private void tellLaws() {
        String text = text();
        lay(text);
        int ward = ward();
        is("laws(" + ward + ") of \"" + text + "\"", x.laws(ward), book.laws(ward));
        is("fault(0)", x.fault(0), book.fault(0));
        is("fault(1)", x.fault(1), book.fault(1));
    }

    private String text() {
        List<String> lines = new ArrayList<>();
        for (String[] kind : GOOD) {
            if (random.nextInt(3) == 0) {
                lines.add(one(kind));
            }
        }
        int powers = random.nextInt(12) == 0 ? 11 + random.nextInt(4) : random.nextInt(4);
        for (int i = 0; i < powers; i++) {
            lines.add(one(POWERS));
        }
        if (random.nextInt(4) == 0) {
            lines.add(one(random.nextBoolean() ? FAULTY : one(GOOD)));
        }
        Collections.shuffle(lines, random);
        return String.join(random.nextBoolean() ? "" : " \n", lines);
    }

    private <T> T one(T[] of) {
        return of[random.nextInt(of.length)];
    }

    private void lay(String text) {
        is("end(0)", x.end(0), book.end(0));
        for (int at = 0; at < text.length() && at < 800; at += 20) {
            int[] n = new int[5];
            for (int i = 0; i < 20; i++) {
                n[i / 4] = n[i / 4] << 8 | (at + i < text.length() ? text.charAt(at + i) : 32);
            }
            is("feed", x.feed(n[0], n[1], n[2], n[3], n[4]), book.feed(n));
        }
        int length = Math.min(text.length(), 800);
        is("end(" + length + ")", x.end(length), book.end(length));
    }

    private void asks() {
        int ward = ward();
        int what = pick(0, 8);
        is("law(" + ward + ", " + what + ")", x.law(ward, what), book.law(ward, what));
        int power = pick(0, 2);
        int hour = pick(0, 23);
        boolean cried = random.nextBoolean();
        is("may(" + ward + ", " + power + ", " + hour + ", " + cried + ")", x.may(ward, power, hour, cried),
                book.may(ward, power, hour, cried));
        int asked = pick(0, 1);
        is("fault(" + asked + ")", x.fault(asked), book.fault(asked));
    }

    private void house() {
        int ward = ward();
        int born = random.nextInt(4) == 0 ? pick(1500, 1799) : 1550 + random.nextInt(80);
        is("house(" + ward + ", " + born + ")", x.house(ward, born), book.house(ward, born));
        int h = pick(0, Math.max(0, book.houses.size() - 1));
        int would = pick(0, 2);
        is("would(" + h + ", " + would + ")", x.would(h, would), book.would(h, would));
        int g = pick(0, Math.max(0, book.houses.size() - 1));
        int pence = pick(1, random.nextInt(3) == 0 ? 100000 : 150);
        is("purse(" + g + ", " + pence + ")", x.purse(g, pence), book.purse(g, pence));
    }

    private void year() {
        int ward = ward();
        int latest = book.count(30 + Math.floorMod(ward, 4));
        int told = random.nextInt(3) == 0 ? pick(1600, 1640) : latest == -1 ? pick(1600, 1604)
                : random.nextBoolean() ? -1 : latest + 1;
        is("fill(" + ward + ", " + told + ")", x.fill(ward, told), book.fill(ward, told));
        int seen = latest == -1 ? told : pick(1600, latest + 1);
        int what = random.nextInt(3);
        is("year(" + ward + ", " + seen + ", " + what + ")", x.year(ward, seen, what), book.year(ward, seen, what));
        int h = pick(0, Math.max(0, book.houses.size() - 1));
        int about = pick(0, 5);
        is("about(" + h + ", " + about + ")", x.about(h, about), book.about(h, about));
    }

    private void night() {
        int ward = ward();
        int power = pick(0, 2);
        int hour = pick(0, 23);
        boolean cried = random.nextBoolean();
        is("charge(" + ward + ", " + power + ", " + hour + ", " + cried + ")", x.charge(ward, power, hour, cried),
                book.charge(ward, power, hour, cried));
        int last = book.charges.size() - 1;
        int k = random.nextBoolean() ? last : pick(0, Math.max(0, last));
        int what = random.nextBoolean() ? 3 + random.nextInt(2) : pick(0, 4);
        is("charged(" + k + ", " + what + ")", x.charged(k, what), book.charged(k, what));
        if (random.nextInt(12) == 0) {
            is("morning()", x.morning(), book.morning());
        }
    }

    private void flight() {
        StringBuilder row = new StringBuilder();
        int courts = pick(2, 10);
        int c = random.nextInt(12);
        for (int i = 0; i < courts; i++) {
            row.append((char) (65 + c));
            c = random.nextInt(30) == 0 ? pick(0, 11) : book.neighbour(c, random);
        }
        lay(row.toString());
        boolean cried = random.nextBoolean();
        is("flee(" + cried + ") along " + row, x.flee(cried), book.flee(cried));
        int what = pick(0, 1);
        is("fled(" + what + ")", x.fled(what), book.fled(what));
    }

    private void robbed() {
        int[] n = {pick(0, 15), pick(0, 15), pick(0, 15), pick(0, 15), pick(0, 2)};
        is("doubt" + Arrays.toString(n), x.doubt(n[0], n[1], n[2], n[3], n[4]), book.doubt(n));
    }

    private void tape() {
        int[] n = {random.nextInt(), random.nextInt(), random.nextInt(), random.nextInt(), random.nextInt()};
        is("feed" + Arrays.toString(n), x.feed(n[0], n[1], n[2], n[3], n[4]), book.feed(n));
        int cut = pick(0, 40);
        is("end(" + cut + ")", x.end(cut), book.end(cut));
    }

    private void counts() {
        int what = random.nextInt(4) == 0 ? pick(0, 2) : 10 + 10 * random.nextInt(3) + pick(0, 3);
        is("count(" + what + ")", x.count(what), book.count(what));
    }

    // ---- the book, written anew

    private static final class Law {
        int[] told = {21, 60, 7, 100, -1, -1, 0, 4, 0};
        final List<int[]> powers = new ArrayList<>();

        boolean follows(boolean cried) {
            return told[5] >= 0 && (told[6] == 0 || cried);
        }

        boolean gives(int power, int hour, boolean cried) {
            for (int[] line : powers) {
                int h = line[1];
                boolean inHours = h == hour;
                while (h != line[2]) {
                    h = (h + 1) % 24;
                    inHours |= h == hour;
                }
                if (line[0] == power && inHours && (line[3] == 0 || cried)) {
                    return true;
                }
            }
            return false;
        }
    }

    /** A text's tokens, gone through with the row of what may come next. */
    private static final class Text {
        private static final List<String> KINDS = List.of("age", "leave", "fine", "hire", "follow", "lockup", "power");
        private static final List<String> ROWS = List.of("99 99up", "30", "9999", "9999", "999 cry?", "20",
                "P from 23 to 23 cry?");
        private static final List<String> POWERS = List.of("stop", "hold", "enter");

        final Law law = new Law();
        final List<String> seen = new ArrayList<>();
        private List<String> due = new ArrayList<>();
        private final List<Integer> numbers = new ArrayList<>();
        private boolean cry = false;
        int lines = 0;
        int kind = 0;
        int place = -1;

        Text(String text) {
            Matcher tokens = Pattern.compile("[a-z]+|[0-9]+|[^ \n]").matcher(text);
            while (kind == 0 && tokens.find()) {
                blame(take(tokens.group()), tokens.start());
            }
            if (kind == 0 && !due.isEmpty()) {
                blame(1, text.length());
            }
        }

        private void blame(int fault, int at) {
            if (fault != 0) {
                kind = fault;
                place = at;
            }
        }

        /** The fault of the next token; 0 without. */
        private int take(String token) {
            if (due.isEmpty()) {
                return begin(token);
            }
            String next = due.remove(0);
            if (next.equals("cry?")) {
                cry = token.equals("cry");
                if (cry) {
                    return 0;
                }
                next = due.remove(0);
            }
            if (next.equals("P")) {
                numbers.add(POWERS.indexOf(token));
                return POWERS.contains(token) ? 0 : 1;
            }
            if (Character.isDigit(next.charAt(0))) {
                return number(token, next);
            }
            if (!token.equals(next)) {
                return 1;
            }
            if (token.equals(";")) {
                endLine();
            }
            return 0;
        }

        private int begin(String token) {
            int which = KINDS.indexOf(token);
            if (which < 0) {
                return 1;
            }
            if (token.equals("power") ? law.powers.size() == 12 : seen.contains(token)) {
                return token.equals("power") ? 4 : 3;
            }
            seen.add(token);
            numbers.clear();
            cry = false;
            due = new ArrayList<>(List.of((ROWS.get(which) + " ;").split(" ")));
            return 0;
        }

        private int number(String token, String most) {
            if (!token.matches("[0-9]{1,4}")) {
                return 1;
            }
            int n = Integer.parseInt(token);
            boolean tooLow = most.endsWith("up") && n < numbers.get(0);
            numbers.add(n);
            return tooLow || n > Integer.parseInt(most.replace("up", "")) ? 2 : 0;
        }

        private void endLine() {
            lines++;
            switch (seen.get(seen.size() - 1)) {
                case "age":
                    law.told[0] = numbers.get(0);
                    law.told[1] = numbers.get(1);
                    break;
                case "leave": law.told[2] = numbers.get(0); break;
                case "fine": law.told[3] = numbers.get(0); break;
                case "hire": law.told[4] = numbers.get(0); break;
                case "follow":
                    law.told[5] = numbers.get(0);
                    law.told[6] = cry ? 1 : 0;
                    break;
                case "lockup": law.told[7] = numbers.get(0); break;
                default:
                    law.powers.add(new int[] {numbers.get(0), numbers.get(1), numbers.get(2), cry ? 1 : 0});
                    law.told[8]++;
                    break;
            }
        }
    }

    private static final class Book {
        private static final int NO_WAY = 100000;

        final List<int[]> houses = new ArrayList<>();
        final List<int[]> charges = new ArrayList<>();
        private final StringBuilder tape = new StringBuilder();
        private final int[] wardOf = new int[12];
        private final int[] within = new int[12];
        private final int[][] ways = new int[12][12];
        private final Law[] laws = {new Law(), new Law(), new Law(), new Law()};
        private final int[] chest = new int[4];
        private final int[] turn = {-1, -1, -1, -1};
        private final List<Map<Integer, int[]>> years = new ArrayList<>();
        private int faultKind = 0;
        private int faultPlace = -1;
        private int[] fled = null;
        private int[] row = null;
        private int[] rowCourts;
        private int[] lengths;

        Book() {
            Arrays.fill(within, 60);
            for (int[] from : ways) {
                Arrays.fill(from, -1);
            }
            for (int w = 0; w < 4; w++) {
                years.add(new TreeMap<>());
            }
        }

        private static boolean is(int n, int from, int to) {
            return from <= n && n <= to;
        }

        int feed(int[] n) {
            if (tape.length() > 780) {
                return -3;
            }
            for (int four : n) {
                for (int i = 3; i >= 0; i--) {
                    tape.append((char) (four >>> 8 * i & 255));
                }
            }
            return tape.length();
        }

        int end(int n) {
            if (!is(n, 0, tape.length())) {
                return -1;
            }
            tape.setLength(n);
            return n;
        }

        private String takeTape() {
            String text = tape.toString();
            tape.setLength(0);
            return text;
        }

        int court(int c, int ward, int minutes) {
            if (!is(c, 0, 11) || !is(ward, 0, 3) || !is(minutes, 1, 999)) {
                return -2;
            }
            wardOf[c] = ward;
            within[c] = minutes;
            return 1;
        }

        int way(int c, int d, int minutes) {
            if (!is(c, 0, 11) || !is(d, 0, 11) || c == d || !is(minutes, 1, 99) && minutes != -1) {
                return -2;
            }
            int before = ways[c][d];
            ways[c][d] = minutes;
            ways[d][c] = minutes;
            return before;
        }

        int neighbour(int c, Random random) {
            int d = random.nextInt(12);
            for (int i = 0; i < 12 && is(c, 0, 11); i++) {
                if (ways[c][(d + i) % 12] != -1) {
                    return (d + i) % 12;
                }
            }
            return d;
        }

        /** From one court by ways, again and again, until nothing gets less. */
        private int[] farFrom(int c) {
            int[] far = new int[12];
            Arrays.fill(far, NO_WAY);
            far[c] = 0;
            boolean less = true;
            while (less) {
                less = false;
                for (int d = 0; d < 12; d++) {
                    for (int e = 0; e < 12; e++) {
                        if (ways[d][e] != -1 && far[d] + ways[d][e] < far[e]) {
                            far[e] = far[d] + ways[d][e];
                            less = true;
                        }
                    }
                }
            }
            return far;
        }

        int far(int c, int d) {
            if (!is(c, 0, 11) || !is(d, 0, 11)) {
                return -2;
            }
            int far = farFrom(c)[d];
            return far >= NO_WAY ? -1 : far;
        }

        int cry(int c, int minutes) {
            if (!is(c, 0, 11) || !is(minutes, 0, 999)) {
                return -2;
            }
            int heard = 0;
            for (int d = 0; d < 12; d++) {
                heard |= farFrom(c)[d] <= minutes ? 1 << d : 0;
            }
            return heard;
        }

        int rounds(int set) {
            if (!is(set, 1, 4095)) {
                return -2;
            }
            int n = Integer.bitCount(set);
            if (n > 10) {
                return -3;
            }
            rowCourts = new int[n];
            int[][] far = new int[n][];
            int at = 0;
            for (int c = 0; c < 12; c++) {
                if ((set >> c & 1) == 1) {
                    rowCourts[at] = c;
                    far[at] = farFrom(c);
                    at++;
                }
            }
            row = null;
            part(new int[n], 0, 0, far);
            return lengths.length;
        }

        /** All rows in order: only a row that is better takes the place of one that came ahead. */
        private void part(int[] men, int at, int used, int[][] far) {
            if (at < men.length) {
                for (int m = 0; m <= used; m++) {
                    men[at] = m;
                    part(men, at + 1, Math.max(used, m + 1), far);
                }
                return;
            }
            int[] found = new int[used];
            for (int m = 0; m < used; m++) {
                found[m] = tour(men, m, far);
                if (found[m] >= NO_WAY) {
                    return;
                }
            }
            if (row == null || used < lengths.length
                    || used == lengths.length && Arrays.stream(found).sum() < Arrays.stream(lengths).sum()) {
                row = men.clone();
                lengths = found;
            }
        }

        private int tour(int[] men, int man, int[][] far) {
            List<Integer> all = new ArrayList<>();
            int most = 999;
            for (int i = 0; i < men.length; i++) {
                if (men[i] == man) {
                    all.add(i);
                    most = Math.min(most, within[rowCourts[i]]);
                }
            }
            int first = all.remove(0);
            int length = goThrough(first, first, all, far);
            return length > most ? NO_WAY : length;
        }

        private int goThrough(int first, int here, List<Integer> left, int[][] far) {
            if (left.isEmpty()) {
                return far[here][rowCourts[first]];
            }
            int least = NO_WAY;
            for (int i = 0; i < left.size(); i++) {
                List<Integer> others = new ArrayList<>(left);
                int next = others.remove(i);
                least = Math.min(least, far[here][rowCourts[next]] + goThrough(first, next, others, far));
            }
            return least;
        }

        int round(int what) {
            if (row == null) {
                return -9;
            }
            if (what == 0) {
                return Arrays.stream(lengths).sum();
            }
            int courts = 0;
            int man = -1;
            for (int i = 0; i < row.length; i++) {
                man = rowCourts[i] == what - 10 ? row[i] : man;
                courts |= row[i] == what - 50 ? 1 << rowCourts[i] : 0;
            }
            if (is(what, 10, 21)) {
                return man;
            }
            return is(what, 30, 29 + lengths.length) ? lengths[what - 30] : courts != 0 ? courts : -9;
        }

        int laws(int ward) {
            String text = takeTape();
            if (!is(ward, 0, 3)) {
                return -2;
            }
            Text read = new Text(text);
            faultKind = read.kind;
            faultPlace = read.place;
            if (read.kind != 0) {
                return -1;
            }
            laws[ward] = read.law;
            return read.lines;
        }

        int fault(int what) {
            return what == 0 ? faultKind : what == 1 ? faultPlace : -1;
        }

        int law(int ward, int what) {
            return is(ward, 0, 3) && is(what, 0, 8) ? laws[ward].told[what] : -9;
        }

        int may(int ward, int power, int hour, boolean cried) {
            if (!is(ward, 0, 3) || !is(power, 0, 2) || !is(hour, 0, 23)) {
                return -2;
            }
            return laws[ward].gives(power, hour, cried) ? 1 : 0;
        }

        /** A house's row is what about() tells. */
        int house(int ward, int born) {
            if (!is(ward, 0, 3) || !is(born, 1500, 1799)) {
                return -2;
            }
            if (houses.size() == 60) {
                return -3;
            }
            houses.add(new int[] {ward, born, 0, 0, -1, 0});
            return houses.size() - 1;
        }

        private boolean isHouse(int h) {
            return is(h, 0, houses.size() - 1);
        }

        int purse(int h, int pence) {
            if (!isHouse(h) || !is(pence, 1, 100000) || houses.get(h)[2] + pence > 1000000) {
                return -2;
            }
            houses.get(h)[2] += pence;
            return houses.get(h)[2];
        }

        int would(int h, int what) {
            if (!isHouse(h) || !is(what, 0, 2)) {
                return -2;
            }
            int before = houses.get(h)[3];
            houses.get(h)[3] = what;
            return before;
        }

        int about(int h, int what) {
            return isHouse(h) && is(what, 0, 5) ? houses.get(h)[what] : -1;
        }

        int fill(int ward, int told) {
            if (!is(ward, 0, 3)) {
                return -2;
            }
            int latest = count(30 + ward);
            int year = latest != -1 && told == -1 ? latest + 1 : told;
            if (!is(year, 1600, 1799) || latest != -1 && year != latest + 1) {
                return -2;
            }
            int[] filled = {-1, 0, 0};
            years.get(ward).put(year, filled);
            for (int h : inTurn(ward)) {
                if (serves(h, ward, year, filled)) {
                    break;
                }
            }
            return filled[0];
        }

        /** The ward's houses, from the one behind the latest whose turn it was. */
        private List<Integer> inTurn(int ward) {
            List<Integer> behind = new ArrayList<>();
            List<Integer> ahead = new ArrayList<>();
            for (int h = 0; h < houses.size(); h++) {
                if (houses.get(h)[0] == ward) {
                    (h > turn[ward] ? behind : ahead).add(h);
                }
            }
            behind.addAll(ahead);
            return behind;
        }

        /** Whether the year has its constable by this house. */
        private boolean serves(int h, int ward, int year, int[] filled) {
            int[] house = houses.get(h);
            int[] law = laws[ward].told;
            boolean onLeave = false;
            for (int back = 1; back <= law[2]; back++) {
                onLeave |= house[4] == year - back;
            }
            if (!is(year - house[1], law[0], law[1]) || onLeave) {
                return false;
            }
            turn[ward] = h;
            house[4] = year;
            house[5]++;
            if (house[3] == 2 && house[2] >= law[3]) {
                house[2] -= law[3];
                chest[ward] += law[3];
                filled[2]++;
                return false;
            }
            filled[0] = h;
            if (house[3] == 1 && law[4] != -1 && house[2] >= law[4]) {
                house[2] -= law[4];
                filled[1] = 1;
            }
            return true;
        }

        int year(int ward, int year, int what) {
            int[] filled = is(ward, 0, 3) ? years.get(ward).get(year) : null;
            return filled != null && is(what, 0, 2) ? filled[what] : -9;
        }

        private int lying(int ward) {
            int lying = 0;
            for (int[] charge : charges) {
                lying += charge[3] == 0 && charge[4] == ward ? 1 : 0;
            }
            return lying;
        }

        /** A charge's row is what charged() tells. */
        int charge(int ward, int power, int hour, boolean cried) {
            int may = may(ward, power, hour, cried);
            if (may == -2) {
                return -2;
            }
            if (charges.size() == 100) {
                return -3;
            }
            int[] charge = {ward, power, hour, 1, -1};
            if (may == 0) {
                chest[ward] -= 5;
            } else {
                int w = ward;
                int looked = 0;
                while (looked < 4 && lying(w) >= laws[w].told[7]) {
                    w = (w + 1) % 4;
                    looked++;
                }
                boolean lies = looked == 0 || looked < 4 && laws[w].follows(cried);
                charge[3] = lies ? 0 : 2;
                charge[4] = lies ? w : -1;
            }
            charges.add(charge);
            return charges.size() - 1;
        }

        int charged(int k, int what) {
            return is(k, 0, charges.size() - 1) && is(what, 0, 4) ? charges.get(k)[what] : -1;
        }

        int morning() {
            int brought = 0;
            for (int[] charge : charges) {
                if (charge[3] == 0) {
                    charge[3] = 3;
                    brought++;
                }
            }
            return brought;
        }

        int flee(boolean cried) {
            String text = takeTape();
            if (!text.matches("[A-L]{2,10}")) {
                return -1;
            }
            int[] clock = new int[text.length()];
            for (int i = 1; i < clock.length; i++) {
                int way = ways[text.charAt(i - 1) - 65][text.charAt(i) - 65];
                if (way == -1) {
                    return -1;
                }
                clock[i] = clock[i - 1] + way;
            }
            int own = wardOf[text.charAt(0) - 65];
            int left = 0;
            int last = 0;
            for (int i = 1; i < clock.length && last == i - 1; i++) {
                int ward = wardOf[text.charAt(i) - 65];
                left = ward == own ? i : left;
                Law law = laws[ward];
                if (ward == own || law.follows(cried) && clock[i] - clock[left] <= law.told[5]) {
                    last = i;
                }
            }
            fled = new int[] {clock[last], text.charAt(last) - 65};
            return last + 1;
        }

        int fled(int what) {
            return fled != null && is(what, 0, 1) ? fled[what] : -9;
        }

        private static BigInteger choose(int n, int k) {
            BigInteger ways = BigInteger.ONE;
            for (int i = 0; i < k; i++) {
                ways = ways.multiply(BigInteger.valueOf(n - i)).divide(BigInteger.valueOf(i + 1));
            }
            return k < 0 ? BigInteger.ZERO : ways;
        }

        long doubt(int[] n) {
            for (int i = 0; i < 5; i++) {
                if (!is(n[i], 0, i == 4 ? 2 : 15)) {
                    return -2;
                }
            }
            int robbed = n[0] + n[2];
            BigInteger all = choose(n[0] + n[1] + n[2] + n[3], robbed);
            BigInteger few = BigInteger.ZERO;
            for (int i = 0; i <= n[0]; i++) {
                few = few.add(choose(n[0] + n[1], i).multiply(choose(n[2] + n[3], robbed - i)));
            }
            if (n[0] + n[1] + n[2] + n[3] == 0) {
                return -2;
            }
            BigInteger common = few.gcd(all);
            return n[4] == 0 ? few.divide(common).longValueExact() : n[4] == 1 ? all.divide(common).longValueExact()
                    : few.multiply(BigInteger.valueOf(20)).compareTo(all) <= 0 ? 1 : 0;
        }

        int count(int what) {
            int w = what % 10;
            if (is(what, 0, 2)) {
                return what == 0 ? houses.size() : what == 1 ? charges.size() : tape.length();
            }
            if (!is(what, 10, 39) || w > 3) {
                return -1;
            }
            TreeMap<Integer, int[]> filled = new TreeMap<>(years.get(w));
            return what < 20 ? chest[w] : what < 30 ? lying(w) : filled.isEmpty() ? -1 : filled.lastKey();
        }
    }
}
