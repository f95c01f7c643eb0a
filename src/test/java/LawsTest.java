import java.util.ArrayList;
import java.util.List;
import java.util.Random;
import java.util.regex.Matcher;
import java.util.regex.Pattern;

/** Promises 10 to 13: laws, fault, law, may. */
public final class LawsTest {
    private static final String POWER = "power hold from 1 to 2;";

    public static void main(String[] args) {
        texts();
        bounds();
        syntax();
        kinds();
        lawsStay();
        latestFault();
        wrongAsks();
        hours();
        for (int seed = 0; seed < 4000; seed++) {
            randomText(new Random(seed));
        }
        Due.end();
    }

    private static void laws(WardWatch x, int ward, int... due) {
        for (int what = 0; what < due.length; what++) {
            Due.is("law(" + ward + ", " + what + ")", x.law(ward, what), due[what]);
        }
    }

    private static void texts() {
        WardWatch x = new WardWatch();
        Due.tellLaws(x, 0, "age 30 40;leave 2;fine 9;hire 8;follow 7 cry;lockup 6;power stop from 5 to 4;", 7);
        laws(x, 0, 30, 40, 2, 9, 8, 7, 1, 6, 1);
        laws(x, 1, 21, 60, 7, 100, -1, -1, 0, 4, 0);
        Due.tellLaws(x, 0, "lockup 0;", 1);
        laws(x, 0, 21, 60, 7, 100, -1, -1, 0, 0, 0);
        Due.tellLaws(x, 0, "\n  age30\n50 ;", 1);
        laws(x, 0, 30, 50);
        Due.tellLaws(x, 1, "follow0cry;hire0;fine0;leave0;age0 0;", 5);
        laws(x, 1, 0, 0, 0, 0, 0, 0, 1, 4, 0);
        Due.tellLaws(x, 2, "follow 0012 ; fine 0000;", 2);
        laws(x, 2, 21, 60, 7, 0, -1, 12, 0);
        Due.tellLaws(x, 3, POWER.repeat(12), 12);
        laws(x, 3, 21, 60, 7, 100, -1, -1, 0, 4, 12);
        Due.tellLaws(x, 3, " \n \n", 0);
        laws(x, 3, 21, 60, 7, 100, -1, -1, 0, 4, 0);
        Due.is("may behind an empty text", x.may(3, 1, 1, true), 0);
        for (int i = 0; i < 3; i++) {
            Due.tellLaws(x, 1, i == 0 ? "follow 5 cry;" : "leave 5;", 1);
            laws(x, 1, 21, 60, i == 0 ? 7 : 5, 100, -1, i == 0 ? 5 : -1, i == 0 ? 1 : 0, 4, 0);
        }
        String most = "age 0 99;leave 30;fine 9999;hire 9999;follow 999;lockup 20;" + POWER.repeat(12);
        Due.tellLaws(x, 2, most, 18);
        laws(x, 2, 0, 99, 30, 9999, 9999, 999, 0, 20, 12);
    }

    private static void bounds() {
        String[] begins = {"age ", "age 5 ", "leave ", "fine ", "hire ", "follow ", "lockup ",
            "power stop from ", "power stop from 1 to "};
        int[] most = {99, 99, 30, 9999, 9999, 999, 20, 23, 23};
        for (int i = 0; i < begins.length; i++) {
            WardWatch x = new WardWatch();
            String end = begins[i].equals("age ") ? " 99;" : i == 7 ? " to 3;" : ";";
            Due.tellLaws(x, 0, begins[i] + most[i] + end, 1);
            boolean isFive = most[i] == 9999;
            Due.faulty(x, 0, begins[i] + (most[i] + 1) + end, isFive ? 1 : 2, begins[i].length());
            Due.faulty(x, 0, begins[i] + "00000" + end, 1, begins[i].length());
            Due.faulty(x, 0, begins[i] + "-1" + end, 1, begins[i].length());
        }
        WardWatch x = new WardWatch();
        Due.tellLaws(x, 0, "age 5 5;", 1);
        Due.faulty(x, 0, "age 5 4;", 2, 6);
        Due.faulty(x, 0, "age 5 4 x", 2, 6);
        Due.faulty(x, 0, "age 100 4;", 2, 4);
        Due.faulty(x, 0, "age 5 12345;", 1, 6);
        Due.faulty(x, 0, "fine " + "9".repeat(700) + ";", 1, 5);
        Due.faulty(x, 0, "fine 4294967297;", 1, 5);
    }

    private static void syntax() {
        WardWatch x = new WardWatch();
        Due.faulty(x, 0, ";", 1, 0);
        Due.faulty(x, 0, "age 1 2", 1, 7);
        Due.faulty(x, 0, "age 1 2  \n", 1, 10);
        Due.faulty(x, 0, "age 1 2;;", 1, 8);
        Due.faulty(x, 0, "agee 1 2;", 1, 0);
        Due.faulty(x, 0, "ag 1 2;", 1, 0);
        Due.faulty(x, 0, "bge 1 2;", 1, 0);
        Due.faulty(x, 0, "aga 1 2;", 1, 0);
        Due.faulty(x, 0, "agez 1 2;", 1, 0);
        Due.faulty(x, 0, "age{1 2;", 1, 3);
        Due.faulty(x, 0, "age`1 2;", 1, 3);
        Due.faulty(x, 0, "age/1 2;", 1, 3);
        Due.faulty(x, 0, "age:1 2;", 1, 3);
        Due.faulty(x, 0, "agE 1 2;", 1, 0);
        Due.faulty(x, 0, "age 1 2.", 1, 7);
        Due.faulty(x, 0, "age\t1 2;", 1, 3);
        Due.faulty(x, 0, "age 1 2;\r", 1, 8);
        Due.faulty(x, 0, "age 1 2;\u0000", 1, 8);
        Due.faulty(x, 0, "age 1 2;\u00e9", 1, 8);
        Due.faulty(x, 0, "5 age;", 1, 0);
        Due.faulty(x, 0, "cry;", 1, 0);
        Due.faulty(x, 0, "leave 3 cry;", 1, 8);
        Due.faulty(x, 0, "leave;", 1, 5);
        Due.faulty(x, 0, "follow cry;", 1, 7);
        Due.faulty(x, 0, "follow 3 4;", 1, 9);
        Due.faulty(x, 0, "follow 3 cry cry;", 1, 13);
        Due.faulty(x, 0, "follow 3 cryy;", 1, 9);
        Due.faulty(x, 0, "power", 1, 5);
        Due.faulty(x, 0, "power from 1 to 2;", 1, 6);
        Due.faulty(x, 0, "powerstop from 1 to 2;", 1, 0);
        Due.faulty(x, 0, "power stop 1 to 2;", 1, 11);
        Due.faulty(x, 0, "power stop to 1 from 2;", 1, 11);
        Due.faulty(x, 0, "power stop from 1 2;", 1, 18);
        Due.faulty(x, 0, "power stop from 1 to ;", 1, 21);
        Due.faulty(x, 0, "power stop from 1 to 2 leave 3;", 1, 23);
        Due.tellLaws(x, 0, "power stop from1to2cry;", 1);
        Due.is("cry is needed", x.may(0, 0, 1, false), 0);
    }

    private static void kinds() {
        WardWatch x = new WardWatch();
        String[] lines = {"age 1 2;", "leave 1;", "fine 1;", "hire 1;", "follow 1 cry;", "lockup 1;"};
        for (String line : lines) {
            Due.faulty(x, 0, line + " " + line, 3, line.length() + 1);
            Due.faulty(x, 0, line + line.substring(0, line.indexOf(' ')), 3, line.length());
            Due.faulty(x, 0, line + " " + POWER + line, 3, line.length() + 1 + POWER.length());
        }
        Due.faulty(x, 0, POWER.repeat(13), 4, 12 * POWER.length());
        Due.faulty(x, 0, POWER.repeat(12) + "power", 4, 12 * POWER.length());
        Due.faulty(x, 0, POWER.repeat(12) + "power 5", 4, 12 * POWER.length());
        Due.faulty(x, 0, POWER.repeat(12) + "powe", 1, 12 * POWER.length());
        Due.faulty(x, 0, "leave 31; leave 5; ?", 2, 6);
        Due.faulty(x, 0, "leave 1; leave 31; ?", 3, 9);
    }

    private static void lawsStay() {
        WardWatch x = new WardWatch();
        Due.tellLaws(x, 2, "age 30 40;follow 5 cry;power enter from 22 to 3;", 3);
        Due.faulty(x, 2, "age 1 2;leave 3;follow 9;power stop from 1 to 2;lockup 21;", 2, 55);
        laws(x, 2, 30, 40, 7, 100, -1, 5, 1, 4, 1);
        Due.is("may enter", x.may(2, 2, 23, false), 1);
        Due.is("may not stop", x.may(2, 0, 1, true), 0);
        Due.tellLaws(x, 1, "lockup 1;", 1);
        laws(x, 1, 21, 60, 7, 100, -1, -1, 0, 1, 0);
        laws(x, 2, 30, 40, 7, 100, -1, 5, 1, 4, 1);
    }

    private static void latestFault() {
        WardWatch x = new WardWatch();
        Due.faulty(x, 1, "leave 99;", 2, 6);
        for (String unread : new String[] {"", "leave 9;", "leave 9; leave 9;"}) {
            Due.lay(x, unread);
            Due.is("laws(4)", x.laws(4), -2);
            Due.is("fault(0)", x.fault(0), 2);
            Due.is("fault(1)", x.fault(1), 6);
        }
        for (int what : new int[] {2, -1, 10, Integer.MAX_VALUE, Integer.MIN_VALUE}) {
            Due.is("fault(" + what + ")", x.fault(what), -1);
        }
        Due.tellLaws(x, 1, "leave 9;", 1);
        Due.lay(x, "leave 31;");
        Due.is("laws(-1)", x.laws(-1), -2);
        Due.is("fault(0)", x.fault(0), 0);
        Due.is("fault(1)", x.fault(1), -1);
        Due.is("law(1, 2)", x.law(1, 2), 9);
        Due.is("laws(1) behind it", x.laws(1), 0);
    }

    private static void wrongAsks() {
        WardWatch x = new WardWatch();
        for (int wrong : new int[] {-1, 4, 24, Integer.MAX_VALUE, Integer.MIN_VALUE}) {
            Due.is("laws(" + wrong + ")", x.laws(wrong), -2);
            Due.is("law(" + wrong + ", 0)", x.law(wrong, 0), -9);
            Due.is("may(" + wrong + ", 0, 0)", x.may(wrong, 0, 0, true), -2);
            Due.is("may(0, " + wrong + ", 0)", x.may(0, wrong, 0, true), -2);
        }
        for (int wrong : new int[] {-1, 24, Integer.MAX_VALUE, Integer.MIN_VALUE}) {
            Due.is("may(0, 0, " + wrong + ")", x.may(0, 0, wrong, true), -2);
        }
        for (int wrong : new int[] {-1, 9, 10, Integer.MAX_VALUE, Integer.MIN_VALUE}) {
            Due.is("law(0, " + wrong + ")", x.law(0, wrong), -9);
        }
        Due.is("may(0, 3, 0)", x.may(0, 3, 0, true), -2);
        Due.is("may(3, 2, 23)", x.may(3, 2, 23, true), 0);
    }

    private static void hours() {
        String[] names = {"stop", "hold", "enter"};
        Random random = new Random(7);
        for (int i = 0; i < 120; i++) {
            int power = random.nextInt(3);
            int from = random.nextInt(24);
            int to = i % 5 == 0 ? from : random.nextInt(24);
            boolean cry = random.nextBoolean();
            WardWatch x = new WardWatch();
            Due.tellLaws(x, 1, "power " + names[power] + " from " + from + " to " + to + (cry ? " cry;" : ";"), 1);
            boolean[] has = new boolean[24];
            for (int h = from; h != to; h = (h + 1) % 24) {
                has[h] = true;
            }
            has[to] = true;
            for (int h = 0; h < 24; h++) {
                Due.is("may, cried", x.may(1, power, h, true), has[h] ? 1 : 0);
                Due.is("may, not cried", x.may(1, power, h, false), has[h] && !cry ? 1 : 0);
                Due.is("another power", x.may(1, (power + 1) % 3, h, true), 0);
                Due.is("another ward", x.may(2, power, h, true), 0);
            }
        }
        WardWatch x = new WardWatch();
        Due.tellLaws(x, 0, "power hold from 1 to 3 cry;power stop from 4 to 4;power hold from 3 to 5;", 3);
        int[] uncried = {0, 0, 0, 1, 1, 1, 0};
        for (int h = 0; h < uncried.length; h++) {
            Due.is("hold at " + h, x.may(0, 1, h, false), uncried[h]);
            Due.is("hold at " + h + ", cried", x.may(0, 1, h, true), h >= 1 && h <= 5 ? 1 : 0);
        }
    }

    // ---- random texts against patterns of whole lines

    private static final String[] LINES = {"age N N", "leave N", "fine N", "hire N", "power P from N to N",
        "power P from N to N cry", "follow N", "follow N cry", "lockup N"};
    private static final String[] BITS = {"age", "leave", "fine", "hire", "power", "stop", "hold", "enter", "from",
        "to", "cry", "follow", "lockup", "0", "5", "23", "24", "30", "31", "99", "100", "999", "1000", "9999",
        "12345", ";", ";", ".", "x", "A", "\u00ff"};

    private static void randomText(Random random) {
        List<String> tokens = new ArrayList<>();
        int lines = random.nextInt(7);
        for (int i = 0; i < lines; i++) {
            for (String part : LINES[random.nextInt(LINES.length)].split(" ")) {
                tokens.add(part.equals("N") ? "" + random.nextInt(22)
                        : part.equals("P") ? BITS[5 + random.nextInt(3)] : part);
            }
            tokens.add(";");
        }
        for (int i = random.nextInt(3); i > 0; i--) {
            change(random, tokens);
        }
        StringBuilder text = new StringBuilder();
        for (String token : tokens) {
            text.append(token).append(" \n ".substring(0, random.nextInt(4)));
        }
        compare(text.toString());
    }

    private static void change(Random random, List<String> tokens) {
        int at = random.nextInt(tokens.size() + 1);
        if (random.nextBoolean() || at == tokens.size()) {
            tokens.add(at, BITS[random.nextInt(BITS.length)]);
        } else if (random.nextBoolean()) {
            tokens.remove(at);
        } else {
            tokens.set(at, BITS[random.nextInt(BITS.length)]);
        }
    }

    /** Goes through the tokens with all the lines that still fit those since the last semicolon. */
    private static void compare(String text) {
        WardWatch x = new WardWatch();
        List<String> line = new ArrayList<>();
        List<String> begun = new ArrayList<>();
        Matcher matcher = Pattern.compile("[a-z]+|[0-9]+|[^ \n]").matcher(text);
        while (matcher.find()) {
            String token = matcher.group();
            int kind = kindOf(line, begun, token);
            if (kind != 0) {
                Due.faulty(x, 1, text, kind, matcher.start());
                return;
            }
            if (line.isEmpty()) {
                begun.add(token);
            }
            line.add(token);
            if (token.equals(";")) {
                line.clear();
            }
        }
        if (line.isEmpty()) {
            Due.tellLaws(x, 1, text, begun.size());
        } else {
            Due.faulty(x, 1, text, 1, text.length());
        }
    }

    private static int kindOf(List<String> line, List<String> begun, String token) {
        boolean goesOn = false;
        for (String known : LINES) {
            String[] parts = (known + " ;").split(" ");
            boolean fits = line.size() < parts.length;
            for (int i = 0; fits && i <= line.size(); i++) {
                fits = fits(parts[i], i < line.size() ? line.get(i) : token);
            }
            goesOn |= fits;
        }
        if (!goesOn) {
            return 1;
        }
        if (Character.isDigit(token.charAt(0))) {
            return isOut(line, Integer.parseInt(token)) ? 2 : 0;
        }
        if (line.isEmpty() && begun.contains(token)) {
            long powers = begun.stream().filter("power"::equals).count();
            return !token.equals("power") ? 3 : powers == 12 ? 4 : 0;
        }
        return 0;
    }

    private static boolean fits(String part, String token) {
        return part.equals("N") ? token.matches("[0-9]{1,4}")
                : part.equals("P") ? token.matches("stop|hold|enter") : part.equals(token);
    }

    private static boolean isOut(List<String> line, int number) {
        switch (line.get(0)) {
            case "age": return number > 99 || line.size() == 2 && number < Integer.parseInt(line.get(1));
            case "leave": return number > 30;
            case "follow": return number > 999;
            case "lockup": return number > 20;
            case "power": return number > 23;
            default: return false;
        }
    }
}
