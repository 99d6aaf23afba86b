import java.io.IOException;
import java.lang.reflect.Method;
import java.lang.reflect.Modifier;
import java.net.URL;
import java.net.URLClassLoader;
import java.nio.file.Files;
import java.nio.file.Path;
import java.util.ArrayList;
import java.util.List;
import java.util.Set;
import java.util.TreeSet;
import java.util.regex.Matcher;
import java.util.regex.Pattern;
import java.util.stream.Stream;
import javax.tools.ToolProvider;

/** Each block of Java that README.md shows is compiled as it stands there and run: each answer is the one it tells. */
public final class ReadmeTests {
    private static final Path PAGE = Path.of("README.md");
    private static final Path TESTS = Path.of("src/test/java");
    private static final String SHOWN = "ReadmeShown";

    /** A call alone in its row, with the answer that is told first behind it. */
    private static final Pattern TOLD = Pattern.compile("\\s*x\\.(\\w+)\\((.*)\\);\\s*// (-?\\d+)(?!\\d).*");

    /** Rows that tell no answer: a new object, and letters that come one by one. */
    private static final Pattern SILENT = Pattern.compile(
        "EachOnHisCue x = new EachOnHisCue\\(\\);|for \\(char letter : \"[^\"]*\"\\.toCharArray\\(\\)\\) \\{"
        + "|    x\\.feed\\(letter\\);|\\}|");

    private static int wrong = 0;
    private static int told = 0;

    private static void holds(boolean it, String what) {
        if (!it) {
            wrong++;
            System.out.println("README.md: " + what);
        }
    }

    /** The shown program calls this for each answer that is told. */
    public static void due(String call, long got, long want) {
        told++;
        holds(got == want, call + " answered " + got + ", told is " + want);
    }

    private static List<List<String>> blocks(List<String> page) {
        List<List<String>> all = new ArrayList<>();
        boolean inside = false;
        for (String row : page) {
            if (row.equals("```java")) {
                inside = true;
                all.add(new ArrayList<>());
            } else if (row.startsWith("```")) {
                inside = false;
            } else if (inside) {
                all.get(all.size() - 1).add(row);
            }
        }
        return all;
    }

    private static String programOf(List<List<String>> blocks, Set<String> called) {
        StringBuilder text = new StringBuilder("public final class " + SHOWN + " {\n    public static void run() {\n");
        for (List<String> block : blocks) {
            text.append("{\n");
            for (String row : block) {
                Matcher call = TOLD.matcher(row);
                if (call.matches()) {
                    String name = call.group(1) + "(" + call.group(2) + ")";
                    called.add(call.group(1));
                    text.append("ReadmeTests.due(\"" + name.replace("\"", "\\\"") + "\", x." + name + ", ");
                    text.append(call.group(3) + "L);\n");
                } else {
                    holds(SILENT.matcher(row).matches(), "a row tells no answer: " + row);
                    text.append(row).append('\n');
                }
            }
            text.append("}\n");
        }
        return text.append("    }\n}\n").toString();
    }

    private static void compileAndRun(String program) throws Exception {
        Path built = Files.createTempDirectory("readme");
        Path source = Files.writeString(built.resolve(SHOWN + ".java"), program);
        String with = System.getProperty("java.class.path");
        int code = ToolProvider.getSystemJavaCompiler().run(null, null, null, "-cp", with, "-d", built.toString(),
            source.toString());
        holds(code == 0, "its blocks compile");
        if (code == 0) {
            URL[] at = {built.toUri().toURL()};
            try (URLClassLoader loader = new URLClassLoader(at, ReadmeTests.class.getClassLoader())) {
                loader.loadClass(SHOWN).getMethod("run").invoke(null);
            }
        }
        removeAll(built);
    }

    private static void removeAll(Path built) throws IOException {
        try (Stream<Path> files = Files.list(built)) {
            for (Path file : files.toList()) {
                Files.delete(file);
            }
        }
        Files.delete(built);
    }

    private static void namesEachTest(String page) throws IOException {
        Set<String> named = new TreeSet<>();
        Matcher name = Pattern.compile("(?m)^- `(\\w+)`").matcher(page);
        while (name.find()) {
            named.add(name.group(1) + ".java");
        }
        Set<String> there = new TreeSet<>();
        try (Stream<Path> files = Files.list(TESTS)) {
            files.forEach(file -> there.add(file.getFileName().toString()));
        }
        holds(named.equals(there), "the tests it names are those that there are: " + named + ", " + there);
        holds(page.contains(".ci/run"), "how to run the tests");
    }

    public static void main(String[] args) throws Exception {
        Set<String> called = new TreeSet<>();
        compileAndRun(programOf(blocks(Files.readAllLines(PAGE)), called));
        for (Method m : EachOnHisCue.class.getDeclaredMethods()) {
            if (Modifier.isPublic(m.getModifiers())) {
                holds(called.contains(m.getName()), "it shows no call of " + m.getName());
            }
        }
        namesEachTest(Files.readString(PAGE));
        System.out.println(told + " answers of README.md, " + wrong + " do not hold");
        if (wrong != 0) {
            System.exit(1);
        }
    }
}
