import java.io.IOException;
import java.lang.reflect.Constructor;
import java.lang.reflect.Field;
import java.lang.reflect.Method;
import java.lang.reflect.Modifier;
import java.nio.file.Files;
import java.nio.file.Path;
import java.util.Set;
import java.util.TreeSet;
import java.util.regex.Matcher;
import java.util.regex.Pattern;

/** The face of the document, and those rules of LANGUAGE.md that a text or a class can show. */
public final class LanguageTest {
    private static final String SOURCE = "src/main/java/WardWatch.java";
    private static final String[] FACE = {"feed(int,int,int,int,int)int", "end(int)int", "court(int,int,int)int",
        "way(int,int,int)int", "far(int,int)int", "rounds(int)int", "round(int)int", "cry(int,int)int",
        "laws(int)int", "fault(int)int", "law(int,int)int", "may(int,int,int,boolean)int", "house(int,int)int",
        "purse(int,int)int", "would(int,int)int", "fill(int,int)int", "year(int,int,int)int", "about(int,int)int",
        "charge(int,int,int,boolean)int", "charged(int,int)int", "morning()int", "flee(boolean)int",
        "fled(int)int", "doubt(int,int,int,int,int)long", "count(int)int"};

    public static void main(String[] args) throws IOException {
        face();
        classesInside();
        String source = Files.readString(Path.of(SOURCE));
        String code = source.replaceAll("(?s)/\\*.*?\\*/", "").replaceAll("//[^\n]*", "");
        words(code);
        loops(code);
        lengths(code);
        Due.end();
    }

    private static void face() {
        Class<?> face = WardWatch.class;
        Due.is("public and final", face.getModifiers() & (Modifier.PUBLIC | Modifier.FINAL),
                Modifier.PUBLIC | Modifier.FINAL);
        Set<String> due = new TreeSet<>(Set.of(FACE));
        Set<String> has = new TreeSet<>();
        Set<String> hidden = new TreeSet<>();
        for (Method method : face.getDeclaredMethods()) {
            if (Modifier.isPrivate(method.getModifiers())) {
                hidden.add(method.getName());
            } else {
                has.add(written(method));
            }
        }
        System.out.println("beyond the face: " + less(has, due) + ", lacking: " + less(due, has));
        Due.is("methods of the face", due.equals(has) ? 1 : 0, 1);
        for (String call : FACE) {
            Due.is("no private method of " + call, hidden.contains(call.substring(0, call.indexOf('('))) ? 1 : 0, 0);
        }
        for (Constructor<?> made : face.getDeclaredConstructors()) {
            Due.is("constructor", Modifier.isPublic(made.getModifiers()) && made.getParameterCount() == 0 ? 1 : 0, 1);
        }
        for (Field field : face.getDeclaredFields()) {
            boolean isConstant = Set.of("NONE", "RANGE", "FULL").contains(field.getName());
            Due.is("field " + field.getName(), Modifier.isPublic(field.getModifiers()) ? 1 : 0, isConstant ? 1 : 0);
            Due.is("not public, then private: " + field.getName(),
                    isConstant || Modifier.isPrivate(field.getModifiers()) ? 1 : 0, 1);
        }
    }

    private static String written(Method method) {
        StringBuilder text = new StringBuilder(method.getName()).append('(');
        for (Class<?> type : method.getParameterTypes()) {
            text.append(text.charAt(text.length() - 1) == '(' ? "" : ",").append(type.getName());
        }
        return text.append(')').append(method.getReturnType().getName()).toString();
    }

    private static Set<String> less(Set<String> all, Set<String> some) {
        Set<String> left = new TreeSet<>(all);
        left.removeAll(some);
        return left;
    }

    private static void classesInside() {
        Class<?>[] inside = WardWatch.class.getDeclaredClasses();
        Due.is("some twelve classes", inside.length <= 12 ? 1 : 0, 1);
        for (Class<?> c : inside) {
            Due.is(c.getName() + " is static", Modifier.isStatic(c.getModifiers()) ? 1 : 0, 1);
            Due.is(c.getName() + " is not public", Modifier.isPublic(c.getModifiers()) ? 1 : 0, 0);
            int fields = 0;
            for (Field field : c.getDeclaredFields()) {
                boolean isStatic = Modifier.isStatic(field.getModifiers());
                fields += isStatic ? 0 : 1;
                Due.is(c.getName() + "." + field.getName() + " is final if static",
                        !isStatic || Modifier.isFinal(field.getModifiers()) ? 1 : 0, 1);
            }
            Due.is(c.getName() + " has some twenty fields", fields <= 20 ? 1 : 0, 1);
            for (Method method : c.getDeclaredMethods()) {
                Due.is(method + " takes at most seven", method.getParameterCount() <= 7 ? 1 : 0, 1);
                for (String call : FACE) {
                    Due.is(method + " bears no name of the face", call.startsWith(method.getName() + "(") ? 1 : 0, 0);
                }
            }
        }
    }

    private static void words(String code) {
        String[] never = {"throw", "throws", "try", "catch", "finally", "synchronized", "assert", "package", "static \\{",
            "->", "::", "Exact", "new \\w+\\([^()]*\\) \\{", "System\\.(?!arraycopy)", "Random", "Thread", "Object"};
        for (String word : never) {
            String pattern = Character.isLetter(word.charAt(0)) ? "\\b" + word : word;
            Matcher matcher = Pattern.compile(pattern + (word.matches("[a-z]+") ? "\\b" : "")).matcher(code);
            Due.is("never \"" + word + "\"", matcher.find() ? 1 : 0, 0);
        }
        Matcher imports = Pattern.compile("import ([^;]+);").matcher(code);
        while (imports.find()) {
            Due.is("import " + imports.group(1), Set.of("java.util.Arrays").contains(imports.group(1)) ? 1 : 0, 1);
        }
    }

    /** Rule 9: a for counts by steps of one size, and a for or while looks at a counter against a bound. */
    private static void loops(String code) {
        Matcher fors = Pattern.compile("\\bfor \\(([^;]*);([^;]*);(.*)\\) \\{").matcher(code);
        int found = 0;
        while (fors.find()) {
            found++;
            Due.is("steps of " + fors.group(), fors.group(3).trim().matches("\\w+(\\+\\+|--| [-+]= \\d+)") ? 1 : 0, 1);
            String counter = fors.group(3).trim().split("\\W")[0];
            Due.is("bound of " + fors.group(), fors.group(2).matches(".*\\b" + counter + " [<>].*") ? 1 : 0, 1);
        }
        Matcher whiles = Pattern.compile("\\bwhile \\((.*)\\) \\{").matcher(code);
        while (whiles.find()) {
            found++;
            Due.is("bound of " + whiles.group(), whiles.group(1).contains(" < ") ? 1 : 0, 1);
        }
        Due.is("every loop was looked at", found, Pattern.compile("\\b(for|while|do)\\b").matcher(code).results().count());
    }

    /** Rule 11: from a method's first line to the brace that stands under it. */
    private static void lengths(String code) {
        Matcher methods = Pattern.compile("(?m)^((?: {4}){1,2})\\w[^=;{}]*\\) \\{$(?s:.*?)^\\1\\}$").matcher(code);
        int found = 0;
        while (methods.find()) {
            found++;
            Due.is("lines of " + methods.group().lines().findFirst().orElse(""),
                    methods.group().lines().count() <= 60 ? 1 : 0, 1);
        }
        Due.is("methods were found", found > FACE.length ? 1 : 0, 1);
    }
}
