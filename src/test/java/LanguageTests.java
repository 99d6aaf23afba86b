import java.lang.management.ManagementFactory;
import java.lang.reflect.Field;
import java.lang.reflect.Method;
import java.lang.reflect.Modifier;
import java.nio.file.Files;
import java.nio.file.Path;
import java.util.ArrayList;
import java.util.List;
import java.util.Map;
import java.util.Set;
import java.util.TreeMap;
import java.util.TreeSet;
import java.util.regex.Matcher;
import java.util.regex.Pattern;

/** The public face, the rules of LANGUAGE.md that can be seen in the file or the class, and the room that a run takes. */
public final class LanguageTests {
    private static final Path SOURCE = Path.of("src/main/java/EachOnHisCue.java");
    private static final List<String> FACE = List.of(
        "int feed(int)", "int piece()", "int player(int,int)", "int line(int,int)", "int cue(int,int)",
        "int speed(int,int)", "int lose(int)", "int comes(int)", "int say()", "int again()", "int night(int)",
        "int goes(int)", "int follow(int)", "int net(int)", "int mend()", "int mendOf(int)", "int prompted()",
        "long home(int)", "int without(int)", "int leastHarm()", "int joke(int,int)", "int stretched(int)",
        "int parts()", "int books()", "int book(int,int)", "int row(int)", "int judge()", "int possible()",
        "int lot(int,int)", "int image()", "int restore()", "int count(int)");

    private static int wrong = 0;

    private static void holds(boolean it, String what) {
        if (!it) {
            wrong++;
            System.out.println("does not hold: " + what);
        }
    }

    private static String told(Method m) {
        StringBuilder s = new StringBuilder(m.getReturnType().getName() + " " + m.getName() + "(");
        for (int k = 0; k < m.getParameterCount(); k++) {
            s.append(k == 0 ? "" : ",").append(m.getParameterTypes()[k].getName());
        }
        return s.append(")").toString();
    }

    private static void face() {
        Class<?> c = EachOnHisCue.class;
        holds(Modifier.isPublic(c.getModifiers()) && Modifier.isFinal(c.getModifiers()), "public and final");
        holds(c.getDeclaredConstructors().length == 1 && c.getConstructors().length == 1, "one constructor");
        Set<String> names = new TreeSet<>();
        Set<String> open = new TreeSet<>();
        for (Method m : c.getDeclaredMethods()) {
            if (!Modifier.isPrivate(m.getModifiers())) {
                open.add(told(m));
                names.add(m.getName());
                holds(Modifier.isPublic(m.getModifiers()) && !Modifier.isStatic(m.getModifiers()), told(m) + " public");
            }
        }
        holds(open.equals(new TreeSet<>(FACE)), "the document's face and no more: " + open);
        for (Field f : c.getDeclaredFields()) {
            holds(Modifier.isPrivate(f.getModifiers()), f + " private");
        }
        List<Class<?>> all = new ArrayList<>(List.of(c.getDeclaredClasses()));
        for (Class<?> inside : all) {
            holds(Modifier.isStatic(inside.getModifiers()), inside + " static");
            for (Method m : inside.getDeclaredMethods()) {
                holds(!names.contains(m.getName()), inside + "." + m.getName() + " bears a public name");
            }
        }
        all.add(c);
        holds(all.size() <= 12, "twelve classes at most");
        for (Class<?> one : all) {
            shape(one, names);
        }
    }

    private static void shape(Class<?> one, Set<String> names) {
        int fields = 0;
        for (Field f : one.getDeclaredFields()) {
            Class<?> type = f.getType().isArray() ? f.getType().getComponentType() : f.getType();
            if (Modifier.isStatic(f.getModifiers())) {
                holds(Modifier.isFinal(f.getModifiers()) && f.getType().isPrimitive(), f + " a constant");
            } else {
                holds(type.isPrimitive() || type.getName().startsWith("EachOnHisCue$"), f + " of a plain type");
                fields++;
            }
        }
        holds(!one.isAnonymousClass() && !one.isLocalClass(), one + " has a name and a place of its own");
        holds(fields <= 20, "twenty fields at most in " + one);
        for (Method m : one.getDeclaredMethods()) {
            holds(m.getParameterCount() <= 7, m + " takes seven at most");
            holds(!Modifier.isPrivate(m.getModifiers()) || !names.contains(m.getName()), m + " has a name of its own");
        }
    }

    private static String withoutComments(String text) {
        return text.replaceAll("(?s)/\\*.*?\\*/", "").replaceAll("//[^\n]*", "");
    }

    private static void text() throws Exception {
        String text = Files.readString(SOURCE);
        for (char sign : text.toCharArray()) {
            holds(sign < 128, "signs 1 to 127");
        }
        String code = withoutComments(text);
        String[] banned = {
            "\\bthrow\\b", "\\bthrows\\b", "\\btry\\b", "\\bcatch\\b", "\\bfinally\\b", "\\bsynchronized\\b", "\\bassert\\b",
            "->", "::", "\\bpackage\\b", "\\bimport\\b", "@", "Exact\\b", "\\bSystem\\.(?!arraycopy)", "\\bThread\\b",
            "\\bRandom\\b", "\\bnative\\b", "\\bvolatile\\b", "\\bObject\\b", "\\bequals\\b", "\\bhashCode\\b",
            "\\btoString\\b", "while\\s*\\(true\\)", "for\\s*\\(;;\\)", "\\bprotected\\b", "\\bstatic\\s*\\{", "\"",
        };
        for (String one : banned) {
            Matcher m = Pattern.compile(one).matcher(code);
            holds(!m.find(), "nothing like " + one);
        }
        lengths(text);
        names(code);
        loops(code);
        depth(code);
    }

    /** Rules 2 to 4: the library's only name is Math, all others are the file's own classes and constants. */
    private static void names(String code) {
        Set<String> own = new TreeSet<>(Set.of("EachOnHisCue", "Math"));
        for (Class<?> inside : EachOnHisCue.class.getDeclaredClasses()) {
            own.add(inside.getSimpleName());
        }
        Matcher m = Pattern.compile("\\b[A-Z]\\w*[a-z]\\w*").matcher(code);
        while (m.find()) {
            holds(own.contains(m.group()), "no such name: " + m.group());
        }
        m = Pattern.compile("\\bMath\\.(\\w+)").matcher(code);
        while (m.find()) {
            holds(Set.of("min", "max").contains(m.group(1)), "no Math." + m.group(1));
        }
        holds(!code.contains("var ") && !code.contains("[][]") && !code.contains("..."), "plain types");
    }

    /** Rule 9: a for counts by one against a bound, a while compares its counter with one. */
    private static void loops(String code) {
        Matcher m = Pattern.compile("\\bfor \\((.*)\\) \\{").matcher(code);
        int seen = 0;
        while (m.find()) {
            seen++;
            holds(m.group(1).matches("int (\\w+) = [^;]+; \\1 (<|<=|>|>=) [^;]+; \\1(\\+\\+|--)"), "counts: " + m.group());
        }
        m = Pattern.compile("\\bwhile \\((.*)\\) \\{").matcher(code);
        while (m.find()) {
            seen++;
            holds(m.group(1).matches("\\w+ (<|<=|>|>=) .*"), "counts: " + m.group());
        }
        holds(seen > 10 && seen == code.split("\\b(for|while|do)\\b", -1).length - 1, "all loops are seen");
    }

    /** Rule 11: calls, found by their names, go at most eight deep; rule 8: what calls itself is private and static. */
    private static void depth(String code) {
        Matcher m = Pattern.compile("\n( {4}| {8})((?:\\w+ )*)(\\w+)\\([^\n]*\\) \\{(.*?)\n\\1\\}", Pattern.DOTALL).matcher(code);
        Map<String, String> bodies = new TreeMap<>();
        int at = 0;
        while (m.find(at)) {
            at = m.end() - m.group(1).length() - 2;
            String name = m.group(3);
            boolean calls = Pattern.compile("(?<![\\w.])" + name + "\\(").matcher(m.group(4)).find();
            holds(!calls || m.group(2).startsWith("private static"), "calls itself: " + name);
            bodies.merge(name, m.group(4), (a, b) -> a + b);
        }
        holds(bodies.keySet().containsAll(List.of("feed", "leastHarm", "nextLine", "choose", "leastOf")), "methods are seen");
        for (String name : bodies.keySet()) {
            holds(deep(name, bodies, new TreeSet<>()) <= 8, "eight deep at most: " + name);
        }
    }

    private static int deep(String name, Map<String, String> bodies, Set<String> open) {
        if (!open.add(name)) {
            return 0;
        }
        int most = 0;
        Matcher m = Pattern.compile("\\b(\\w+)\\(").matcher(bodies.get(name));
        Set<String> called = new TreeSet<>();
        while (m.find()) {
            if (bodies.containsKey(m.group(1))) {
                called.add(m.group(1));
            }
        }
        for (String other : called) {
            most = Math.max(most, deep(other, bodies, open));
        }
        open.remove(name);
        return most + 1;
    }

    /** A method begins at a line that ends in ") {" one level below its class and ends at the brace of the same indent. */
    private static void lengths(String text) {
        String[] rows = text.split("\n");
        for (int k = 0; k < rows.length; k++) {
            Matcher m = Pattern.compile("^( {4}| {8})[a-z].*\\) \\{$").matcher(rows[k]);
            if (!m.matches() || rows[k].trim().matches("(if|for|while|switch|else).*")) {
                continue;
            }
            int end = k;
            while (end < rows.length - 1 && !rows[end].equals(m.group(1) + "}")) {
                end++;
            }
            holds(end - k < 60, "sixty lines at most: " + rows[k].trim());
        }
    }

    private static long made() {
        return ((com.sun.management.ThreadMXBean) ManagementFactory.getThreadMXBean()).getCurrentThreadAllocatedBytes();
    }

    /** All calls that do not bring players, again and again, on one object. */
    private static long useAll(EachOnHisCue x, int calls) {
        long sum = 0;
        for (int k = 0; k < calls; k++) {
            sum += x.player(0, 2) + x.line(0, 1) + x.cue(1, 1 + k % 4) + x.speed(0, k % 10) + x.lose(k % 100);
            sum += x.comes(1) + x.say() + x.again() + x.night(k % 60) + x.goes(k % 4) + x.follow(0) + x.net(k % 4);
            sum += x.mend() + x.mendOf(1) + x.prompted() + x.home(0) + x.without(1) + x.leastHarm() + x.joke(0, 3);
            sum += x.stretched(2) + x.parts() + x.books() + x.book(3, 4) + x.row(0) + x.judge() + x.possible();
            sum += x.lot(20, k) + x.image() + x.restore() + x.count(k % 18) + x.feed(300) + x.home(5);
        }
        return sum;
    }

    private static void room() {
        EachOnHisCue x = new EachOnHisCue();
        for (char c : "p115;p515;l0a1;l1a1;l0a1;l1a1;l0a1;l1a1;l0a1;".toCharArray()) {
            x.feed(c);
        }
        x.piece();
        useAll(x, 2);
        made();
        long before = made();
        useAll(x, 16);
        long all = made() - before;
        holds(all < 4096, "calls make next to nothing: " + all + " bytes");
        before = made();
        EachOnHisCue another = new EachOnHisCue();
        all = made() - before;
        holds(all < 4096 && another.count(0) == 0, "an object is small: " + all + " bytes");
    }

    public static void main(String[] args) throws Exception {
        face();
        text();
        room();
        System.out.println("the rules: " + wrong + " do not hold");
        if (wrong != 0) {
            System.exit(1);
        }
    }
}
