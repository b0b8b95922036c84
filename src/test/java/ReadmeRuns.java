import java.io.File;
import java.lang.reflect.Method;
import java.lang.reflect.Modifier;
import java.net.URL;
import java.net.URLClassLoader;
import java.nio.charset.StandardCharsets;
import java.nio.file.Files;
import java.nio.file.Path;
import java.nio.file.Paths;
import java.util.ArrayList;
import java.util.List;
import java.util.regex.Matcher;
import java.util.regex.Pattern;
import javax.tools.ToolProvider;

/** README.md: its lines of Java answer what stands behind them, it names every call of the face, and every test. */
public final class ReadmeRuns {
    private static final Pattern BLOCK = Pattern.compile("(?s)```java\n(.*?)```");
    private static final Pattern LINE = Pattern.compile("(room\\..*);\\s+// (-?\\d+)\\b.*");
    private static int lines;
    private static int failed;

    /** What a line answered; the class that is made of the README calls this. */
    public static void due(String line, long got, long want) {
        lines++;
        must(got == want, line + " answers " + got + ", the page says " + want);
    }

    private static void must(boolean is, String what) {
        if (!is) {
            failed++;
            System.out.println("not so: " + what);
        }
    }

    public static void main(String[] args) throws Exception {
        String page = new String(Files.readAllBytes(Paths.get("README.md")), StandardCharsets.UTF_8);
        runs(page);
        namesCalls(page);
        namesTests(page);
        System.out.println("ReadmeRuns: " + lines + " lines, " + (failed == 0 ? "all stand" : failed + " do not stand"));
        if (failed > 0) {
            System.exit(1);
        }
    }

    private static void runs(String page) throws Exception {
        StringBuilder code = new StringBuilder("public final class ReadmeLines {\n    public static void main(String[] args) {\n");
        Matcher block = BLOCK.matcher(page);
        while (block.find()) {
            code.append("{\n");
            for (String line : block.group(1).split("\n")) {
                Matcher m = LINE.matcher(line);
                code.append(m.matches() ? "ReadmeRuns.due(\"" + m.group(1) + "\", " + m.group(1) + ", " + m.group(2) + "L);" : line);
                code.append('\n');
                must(m.matches() || !line.startsWith("room."), "a number stands behind " + line);
            }
            code.append("}\n");
        }
        code.append("    }\n}\n");
        Path made = Files.createTempDirectory("readme");
        Path source = made.resolve("ReadmeLines.java");
        Files.write(source, code.toString().getBytes(StandardCharsets.UTF_8));
        int compiled = ToolProvider.getSystemJavaCompiler().run(null, null, null, "-cp",
            System.getProperty("java.class.path"), "-d", made.toString(), source.toString());
        must(compiled == 0, "the page's Java compiles");
        if (compiled == 0) {
            try (URLClassLoader loader = new URLClassLoader(new URL[] {made.toUri().toURL()})) {
                loader.loadClass("ReadmeLines").getMethod("main", String[].class).invoke(null, (Object) new String[0]);
            }
        }
        must(lines > 40, "the page has lines that run");
        File[] files = made.toFile().listFiles();
        for (File f : files == null ? new File[0] : files) {
            Files.delete(f.toPath());
        }
        Files.delete(made);
    }

    /** Each call has a row of its own in the table, with as many arguments as it takes. */
    private static void namesCalls(String page) {
        List<Method> calls = new ArrayList<>();
        for (Method m : DanceStillOwed.class.getDeclaredMethods()) {
            if (Modifier.isPublic(m.getModifiers())) {
                calls.add(m);
            }
        }
        must(calls.size() == 26, "26 calls");
        must(page.contains("\n| `DanceStillOwed()` |"), "the constructor has a row");
        for (Method m : calls) {
            Matcher row = Pattern.compile("(?m)^\\| `" + m.getName() + "\\(([^)]*)\\)` \\|.*\\|.*\\|$").matcher(page);
            must(row.find(), "a row for " + m.getName());
            if (row.find(0)) {
                String named = row.group(1);
                int many = named.isEmpty() ? 0 : named.split(", ").length;
                must(many == m.getParameterCount(), "the arguments of " + m.getName());
            }
        }
        for (String name : new String[] {"NONE", "BAD", "STATE", "FULL", "NO"}) {
            must(page.contains("`" + name + "`"), "the constant " + name);
        }
        for (int refusal = -14; refusal <= -11; refusal++) {
            must(page.contains("\n| " + refusal + " | |"), "a row for " + refusal);
        }
    }

    private static void namesTests(String page) {
        must(page.contains("`bash .ci/run`"), "how the tests are run");
        File[] files = new File("src/test/java").listFiles();
        must(files != null && files.length > 0, "tests");
        for (File f : files == null ? new File[0] : files) {
            String name = f.getName().replace(".java", "");
            must(page.contains("`" + name + "`") || page.contains("/" + name + ".java`") || page.contains("`" + name + ".java`"),
                "what " + name + " is");
        }
    }
}
