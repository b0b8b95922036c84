import java.lang.reflect.Constructor;
import java.lang.reflect.Field;
import java.lang.reflect.Method;
import java.lang.reflect.Modifier;
import java.nio.charset.StandardCharsets;
import java.nio.file.Files;
import java.nio.file.Paths;
import java.util.ArrayList;
import java.util.List;
import java.util.Set;
import java.util.TreeSet;
import java.util.regex.Matcher;
import java.util.regex.Pattern;

/** The face as the document has it, and what can be seen of LANGUAGE.md's rules in the source and in what is made. */
public final class SourceRules {
    private static int failed;

    private static void must(boolean is, String what) {
        if (!is) {
            failed++;
            System.out.println("not so: " + what);
        }
    }

    public static void main(String[] args) throws Exception {
        face();
        nested();
        source(new String(Files.readAllBytes(Paths.get(args.length > 0 ? args[0]
            : "src/main/java/DanceStillOwed.java")), StandardCharsets.ISO_8859_1));
        allocations();
        System.out.println("SourceRules: " + (failed == 0 ? "all stand" : failed + " do not stand"));
        if (failed > 0) System.exit(1);
    }

    private static final String[] FACE = {
        "int set(int,int,int)", "int dancer(int,int)", "int told(int,int)", "int asks(int,int,int)", "int feed(int)",
        "int text()", "int force(int)", "int dance(int,int)", "int round()", "int night()", "int strike(int)",
        "int run(int,int,int,int)", "int best(int)", "long share(int,int)", "int tells(int,int,int,int)",
        "int film(int,int,int,int)", "int drawn(int)", "long chance(int,int,int,int)", "int image()", "int back()",
        "int count(int)", "int sheet(int,int,int)", "int cell(int,int,int)", "int copy(int,int,int,int,int)",
        "int room(int,int,int,int)", "int taken(int,int)"};

    private static String form(Method m) {
        List<String> types = new ArrayList<>();
        for (Class<?> c : m.getParameterTypes()) types.add(c.getName());
        return m.getReturnType().getName() + " " + m.getName() + "(" + String.join(",", types) + ")";
    }

    private static void face() {
        Class<?> c = DanceStillOwed.class;
        must(Modifier.isPublic(c.getModifiers()) && Modifier.isFinal(c.getModifiers()), "public and final");
        must(c.getSuperclass() == Object.class && c.getInterfaces().length == 0, "under nothing");
        Constructor<?>[] made = c.getDeclaredConstructors();
        must(made.length == 1 && Modifier.isPublic(made[0].getModifiers()) && made[0].getParameterCount() == 0, "one constructor");
        Set<String> due = new TreeSet<>(List.of(FACE));
        Set<String> names = new TreeSet<>();
        for (Method m : c.getDeclaredMethods()) {
            if (Modifier.isPublic(m.getModifiers())) {
                must(due.remove(form(m)) && !Modifier.isStatic(m.getModifiers()), "of the face: " + form(m));
                names.add(m.getName());
            } else {
                must(Modifier.isPrivate(m.getModifiers()), "private: " + m);
            }
        }
        must(due.isEmpty(), "missing: " + due);
        Set<String> constants = new TreeSet<>(List.of("NONE", "BAD", "STATE", "FULL", "NO"));
        for (Field f : c.getDeclaredFields()) {
            if (Modifier.isPublic(f.getModifiers())) {
                must(constants.remove(f.getName()) && Modifier.isStatic(f.getModifiers()) && Modifier.isFinal(f.getModifiers())
                    && f.getType() == (f.getName().equals("NO") ? long.class : int.class), "a constant: " + f);
            } else {
                must(Modifier.isPrivate(f.getModifiers()), "private: " + f);
            }
        }
        must(constants.isEmpty(), "missing: " + constants);
        List<Class<?>> all = new ArrayList<>(List.of(c.getDeclaredClasses()));
        all.add(c);
        for (Class<?> k : all) for (Method m : k.getDeclaredMethods()) {
            must(k == c && Modifier.isPublic(m.getModifiers()) || !names.contains(m.getName()), "another name: " + m);
            must(m.getParameterCount() <= 7, "seven parameters: " + m);
        }
    }

    private static void nested() {
        Class<?>[] inside = DanceStillOwed.class.getDeclaredClasses();
        must(inside.length < 12, "twelve classes");
        for (Class<?> k : inside) {
            must(Modifier.isStatic(k.getModifiers()) && Modifier.isPrivate(k.getModifiers()), "private and static: " + k);
            must(k.getSuperclass() == Object.class, "no exceptions of its own: " + k);
            int fields = 0;
            for (Field f : k.getDeclaredFields()) {
                if (Modifier.isStatic(f.getModifiers())) must(Modifier.isFinal(f.getModifiers()), "final: " + f);
                else fields++;
            }
            must(fields <= 20, "twenty fields: " + k);
        }
    }

    private static void source(String text) {
        String code = text.replaceAll("(?s)/\\*.*?\\*/", "").replaceAll("//[^\n]*", "");
        String bare = code.replaceAll("\"[^\"]*\"", "\"\"").replaceAll("'[^']*'", "' '");
        String[] words = {"package", "import", "throw", "try", "catch", "finally", "assert", "synchronized", "native",
            "volatile", "transient", "instanceof", "enum", "record", "interface", "var", "yield", "hashCode", "toString",
            "equals", "protected", "Exact", "System\\.(?!arraycopy)", "Thread", "Object"};
        for (String word : words) {
            must(!Pattern.compile("\\b" + word + "\\b").matcher(bare).find(), "without " + word);
        }
        must(!bare.contains("->") && !bare.contains("::"), "no lambda, no method reference");
        must(!bare.contains("\" +") && !bare.contains("+ \""), "no texts joined by +");
        must(!Pattern.compile("while \\(true\\)|for \\(;;").matcher(bare).find(), "no loop without an end");
        must(!Pattern.compile("static \\{").matcher(bare).find(), "no static initialiser");
        must(!Pattern.compile("[^\\x0a\\x20-\\x7e]").matcher(text).find(), "signs 1 to 127");
        Matcher m = Pattern.compile("(?m)^( +)(?:public |private |static )*[\\w\\[\\]]+ \\w+\\([^)]*\\) \\{\\n(?s:.*?)\\n\\1\\}").matcher(bare);
        int methods = 0;
        while (m.find()) {
            methods++;
            must(m.group().split("\n").length <= 60, "sixty lines: " + m.group().split("\n")[0]);
        }
        must(methods > 60, "methods are found");
    }

    /** What calls may make: nothing, but for the TEXT that text() keeps. */
    private static void allocations() {
        com.sun.management.ThreadMXBean bean =
            (com.sun.management.ThreadMXBean) java.lang.management.ManagementFactory.getThreadMXBean();
        DanceStillOwed x = new DanceStillOwed();
        for (int k = 0; k < 5; k++) x.dancer(k, 4);
        for (int k = 0; k < 3; k++) dear(x, k);
        long id = Thread.currentThread().getId();
        long before = bean.getThreadAllocatedBytes(id);
        int sum = 0;
        for (int k = 0; k < 20; k++) sum += dear(x, k);
        long made = bean.getThreadAllocatedBytes(id) - before;
        must(made < 4096, "calls make nothing, but " + made + " bytes were made (" + sum + ")");
        before = bean.getThreadAllocatedBytes(id);
        DanceStillOwed[] many = new DanceStillOwed[100];
        for (int k = 0; k < many.length; k++) many[k] = new DanceStillOwed();
        made = (bean.getThreadAllocatedBytes(id) - before) / many.length;
        must(made < 12000, "a new object makes little, but " + made + " bytes were made");
    }

    private static int dear(DanceStillOwed x, int seed) {
        int sum = 0;
        for (int one = 0; one < 5; one++) x.set(4, 10 * one + (one + 1) % 5, 2);
        for (int what = 0; what < 9; what++) sum += x.best(what) + x.told(1, what) + x.asks(0, 1, what % 3);
        sum += x.run(40, 0, 1, 2) + x.drawn(seed) + (int) x.chance(seed, 10, 5, 0) + (int) x.share(0, 0);
        sum += x.image() + x.round() + x.night() + x.back() + x.strike(12345) + x.dance(0, 1) + x.count(1);
        sum += x.film(0, 0, 1, 30) + x.sheet(1, 0, 30) + x.copy(0, 0, 1, 0, 30) + x.cell(1, 0, 0) + x.room(1, 0, 0, 5);
        for (int what = 0; what < 9; what++) sum += x.tells(0, 0, 1, what);
        sum += x.feed(32) + x.force(0) + x.taken(0, 0);
        return sum;
    }
}
