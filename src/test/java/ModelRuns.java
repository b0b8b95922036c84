import java.util.ArrayList;
import java.util.Arrays;
import java.util.List;
import java.util.Random;

/** Random runs (always the same ones) of at most 512 calls, each answered by the class and by the Model. */
public final class ModelRuns {
    private static final String[] NAMES = {"set", "dancer", "told", "asks", "feed", "text", "force", "dance", "round",
        "night", "strike", "run", "best", "share", "tells", "film", "drawn", "chance", "image", "back", "count",
        "sheet", "cell", "copy", "room", "taken"};
    /** How often each is called in a run's own steps, beside whole texts. */
    private static final int[] WEIGHTS = {30, 3, 8, 12, 1, 1, 4, 6, 8, 2, 6, 6, 24, 4, 26, 10, 3, 3, 2, 3, 6,
        4, 10, 4, 4, 4};

    private final Random random;
    private final DanceStillOwed real = new DanceStillOwed();
    private final Model model = new Model();
    private final List<String> calls = new ArrayList<>();
    private final int style;
    private int left = 512;

    private ModelRuns(long seed) {
        random = new Random(seed);
        style = random.nextInt(4);
    }

    public static void main(String[] args) {
        int runs = args.length > 0 ? Integer.parseInt(args[0]) : 1500;
        int passed = 0;
        int failed = 0;
        for (int k = 0; k < runs && failed < 5; k++) {
            ModelRuns run = new ModelRuns(7000L + k);
            if (run.goes()) passed++;
            else {
                failed++;
                System.out.println("run " + k + ": " + String.join("; ", run.calls));
            }
        }
        System.out.println("ModelRuns: " + passed + " runs as the model, " + failed + " not");
        if (failed > 0) System.exit(1);
    }

    private boolean goes() {
        int came = random.nextInt(6);
        for (int k = 0; k < came; k++) if (!call(1, random.nextInt(6), random.nextInt(10))) return false;
        while (left > 0) {
            if (random.nextInt(40) == 0 && left > 170) {
                if (!feedText(randomText())) return false;
                continue;
            }
            int scene = random.nextInt(60);
            if (scene == 0 && !fewDebts() || scene == 1 && !ring() || scene == 2 && !retold()) return false;
            int op = pick();
            if (!call(op, arguments(op))) return false;
        }
        return true;
    }

    /** A fresh night with a few small DEBTS, and all that is BEST of it. */
    private boolean fewDebts() {
        int n = model.now.ones.size();
        for (int a = 0; a < n; a++) for (int b = 0; b < n; b++) if (a != b && model.now.debt(a, b) > 0)
            if (!call(0, 4, 10 * a + b, 0)) return false;
        if (!call(9)) return false;
        for (int k = random.nextInt(5); k >= 0; k--) if (n > 1) {
            int a = random.nextInt(n), b = (a + 1 + random.nextInt(n - 1)) % n;
            if (!call(0, 4, 10 * a + b, 1 + random.nextInt(3))) return false;
        }
        for (int what = 0; what < 9; what++) if (!call(12, what)) return false;
        return call(8) && call(12, 4);
    }

    /** DEBTS round a ring, that are struck off. */
    private boolean ring() {
        int n = model.now.ones.size();
        if (n < 2) return true;
        List<Integer> l = new ArrayList<>();
        for (int k = 0; k < n; k++) l.add(k);
        java.util.Collections.shuffle(l, random);
        l = l.subList(0, 2 + random.nextInt(n - 1));
        int digits = 0;
        for (int k = 0; k < l.size(); k++) {
            if (!call(0, 4, 10 * l.get(k) + l.get((k + 1) % l.size()), random.nextInt(9) + random.nextInt(2))) return false;
            digits = digits * 10 + l.get(k) + 1;
        }
        return call(12, 5) && call(12, 6) && call(10, digits) && call(20, 1) && call(12, 6);
    }

    /** What was filmed is read back behind some change. */
    private boolean retold() {
        int n = model.now.ones.size();
        if (n < 2) return true;
        int a = random.nextInt(n), b = (a + 1 + random.nextInt(n - 1)) % n;
        int sheet = random.nextInt(4);
        int cells = 2 + random.nextInt(8);
        if (!call(15, sheet, a, b, cells)) return false;
        if (random.nextInt(4) == 0 && !call(22, sheet, random.nextInt(cells), random.nextInt(cells))) return false;
        int change = random.nextInt(6);
        if (change < 4 && !call(0, change, a, random.nextInt(10))) return false;
        if (change == 4 && !call(6, random.nextInt(model.texts.size()))) return false;
        for (int what = 0; what < 9; what++) if (!call(14, sheet, a, b, what)) return false;
        return true;
    }

    private int pick() {
        int sum = Arrays.stream(WEIGHTS).sum();
        int at = random.nextInt(sum);
        int op = 0;
        while (at >= WEIGHTS[op]) at -= WEIGHTS[op++];
        return op;
    }

    private boolean call(int op, int... a) {
        if (left == 0) return true;
        left--;
        long got = answer(op, a);
        long due = modelAnswer(op, a);
        calls.add(NAMES[op] + Arrays.toString(a).replace('[', '(').replace(']', ')') + " = " + got
            + (got == due ? "" : ", due is " + due));
        return got == due;
    }

    private boolean feedText(String s) {
        for (int k = 0; k < s.length(); k++) if (!call(4, s.charAt(k))) return false;
        if (!call(5)) return false;
        return random.nextInt(3) == 0 || call(6, model.texts.size() - 1);
    }

    /** Mostly a number of the given bounds, at times one beside them or far off. */
    private int near(int least, int most) {
        int r = random.nextInt(60);
        if (r == 0) return least - 1;
        if (r == 1) return most + 1;
        if (r == 2) return new int[] {Integer.MIN_VALUE, Integer.MAX_VALUE, -1000, 1000, 0}[random.nextInt(5)];
        return least + random.nextInt(most - least + 1);
    }

    private int one() { return near(0, Math.max(0, model.now.ones.size() - 1)); }

    private int debt() {
        if (random.nextInt(3) == 0) return 0;
        return style == 0 ? near(0, 99) : style == 1 ? near(0, 4) : near(0, 12);
    }

    private int[] arguments(int op) {
        int of = 10 * one() + one();
        switch (NAMES[op]) {
            case "set": {
                int what = random.nextInt(4) > 0 ? 4 : near(0, 4);
                if (what == 4) return ints(4, of, debt());
                return ints(what, one(), what < 2 ? random.nextInt(8) == 0 ? near(995, 999) : near(0, 30)
                    : what == 2 ? near(0, 9) : random.nextInt(8) == 0 ? near(95, 99) : near(0, 9));
            }
            case "dancer": return ints(near(0, 5), near(0, 9));
            case "told": { int what = near(0, 8); return ints(what == 4 ? of : one(), what); }
            case "asks": return ints(one(), one(), near(0, 2));
            case "feed": return ints(near(0, 255));
            case "force": return ints(near(0, model.texts.size() - 1));
            case "dance": return ints(one(), one());
            case "strike": return ints(digits());
            case "run": return ints(near(0, 40), one(), one(), near(0, 2));
            case "best": return ints(near(0, 8));
            case "share": return ints(one(), near(0, 1));
            case "tells": return ints(near(0, 3), one(), one(), near(0, 8));
            case "film": return ints(near(0, 3), one(), one(), random.nextInt(3) > 0 ? near(0, 6) : near(0, 30));
            case "drawn": return ints(seed());
            case "chance": return ints(seed(), near(1, 10), random.nextInt(2) == 0 ? near(0, 12) : near(0, 61), near(0, 1));
            case "count": return ints(near(0, 5));
            case "sheet": return ints(near(0, 3), near(-1, 2), random.nextInt(2) == 0 ? near(0, 6) : near(0, 40));
            case "cell": return ints(near(0, 3), near(0, 8), random.nextInt(4) == 0 ? random.nextInt() : near(0, 9));
            case "copy": return ints(near(0, 3), near(0, 8), near(0, 3), near(0, 8), near(0, 8));
            case "room": return ints(near(0, 3), near(0, 2), near(0, 6), near(0, 5));
            case "taken": return ints(one(), near(0, 5));
            default: return ints();
        }
    }

    private int seed() { return random.nextInt(5) == 0 ? Integer.MAX_VALUE - random.nextInt(5) : random.nextInt(); }

    private int digits() {
        int r = random.nextInt(10);
        if (r == 0) return near(0, 99999);
        int n = 2 + random.nextInt(4);
        List<Integer> l = new ArrayList<>(List.of(1, 2, 3, 4, 5));
        l.removeIf(d -> d > model.now.ones.size() && random.nextInt(20) > 0);
        java.util.Collections.shuffle(l, random);
        int digits = 0;
        for (int k = 0; k < n && k < l.size(); k++) digits = digits * 10 + l.get(k);
        return r == 1 ? digits * 10 + 1 : digits;
    }

    private static int[] ints(int... a) { return a; }

    private String randomText() {
        StringBuilder s = new StringBuilder();
        String[] parts = {"pays", "wills", "breath"};
        for (String part : parts) {
            s.append(part).append(' ');
            if (part.equals("wills") && random.nextInt(3) > 0) s.append("1 or ");
            if (part.equals("breath") && random.nextInt(3) > 0) s.append(random.nextInt(9)).append('+');
            e(s, 2, 0);
            s.append(';');
            if (random.nextInt(5) == 0) s.append(random.nextBoolean() ? " " : "\n");
        }
        if (random.nextInt(2) == 0) spoil(s);
        return s.length() > 160 ? s.substring(0, 160) : s.toString();
    }

    private void spoil(StringBuilder s) {
        String bits = "()-+*<=;09az \n\tA$not (and or number debt pays wills breath round";
        int at = random.nextInt(s.length());
        switch (random.nextInt(4)) {
            case 0: s.deleteCharAt(at); break;
            case 1: s.insert(at, bits.charAt(random.nextInt(bits.length()))); break;
            case 2: s.setCharAt(at, (char) random.nextInt(256)); break;
            default: s.setLength(at); break;
        }
    }

    private void e(StringBuilder s, int depth, int level) {
        String[][] signs = {{" or "}, {" and "}, {"<", "="}, {"+", "-", " - "}, {"*"}};
        if (level == 2 && random.nextInt(6) == 0) s.append("not ");
        if (level == 5) {
            int r = random.nextInt(10);
            if (r < 4) s.append(random.nextInt(5) > 0 ? random.nextInt(12) : random.nextInt(12000));
            else if (r < 8) s.append(Model.NAMES.get(random.nextInt(6)));
            else if (r == 8) {
                s.append('-');
                e(s, depth, 5);
            } else if (depth > 0) {
                s.append('(');
                e(s, depth - 1, 0);
                s.append(')');
            } else s.append("((debt))");
            return;
        }
        e(s, depth, level + 1);
        int more = level == 2 ? 1 : 2;
        while (more-- > 0 && random.nextInt(5) == 0) {
            s.append(signs[level][random.nextInt(signs[level].length)]);
            e(s, depth, level + 1);
        }
    }

    private long answer(int op, int[] a) {
        switch (NAMES[op]) {
            case "set": return real.set(a[0], a[1], a[2]);
            case "dancer": return real.dancer(a[0], a[1]);
            case "told": return real.told(a[0], a[1]);
            case "asks": return real.asks(a[0], a[1], a[2]);
            case "feed": return real.feed(a[0]);
            case "text": return real.text();
            case "force": return real.force(a[0]);
            case "dance": return real.dance(a[0], a[1]);
            case "round": return real.round();
            case "night": return real.night();
            case "strike": return real.strike(a[0]);
            case "run": return real.run(a[0], a[1], a[2], a[3]);
            case "best": return real.best(a[0]);
            case "share": return real.share(a[0], a[1]);
            case "tells": return real.tells(a[0], a[1], a[2], a[3]);
            case "film": return real.film(a[0], a[1], a[2], a[3]);
            case "drawn": return real.drawn(a[0]);
            case "chance": return real.chance(a[0], a[1], a[2], a[3]);
            case "image": return real.image();
            case "back": return real.back();
            case "count": return real.count(a[0]);
            case "sheet": return real.sheet(a[0], a[1], a[2]);
            case "cell": return real.cell(a[0], a[1], a[2]);
            case "copy": return real.copy(a[0], a[1], a[2], a[3], a[4]);
            case "room": return real.room(a[0], a[1], a[2], a[3]);
            default: return real.taken(a[0], a[1]);
        }
    }

    private long modelAnswer(int op, int[] a) {
        switch (NAMES[op]) {
            case "set": return model.set(a[0], a[1], a[2]);
            case "dancer": return model.dancer(a[0], a[1]);
            case "told": return model.told(a[0], a[1]);
            case "asks": return model.asks(a[0], a[1], a[2]);
            case "feed": return model.feed(a[0]);
            case "text": return model.text();
            case "force": return model.force(a[0]);
            case "dance": return model.dance(a[0], a[1]);
            case "round": return model.round();
            case "night": return model.night();
            case "strike": return model.strike(a[0]);
            case "run": return model.run(a[0], a[1], a[2], a[3]);
            case "best": return model.best(a[0]);
            case "share": return model.share(a[0], a[1]);
            case "tells": return model.tells(a[0], a[1], a[2], a[3]);
            case "film": return model.film(a[0], a[1], a[2], a[3]);
            case "drawn": return model.drawn(a[0]);
            case "chance": return model.chance(a[0], a[1], a[2], a[3]);
            case "image": return model.image();
            case "back": return model.back();
            case "count": return model.count(a[0]);
            case "sheet": return model.sheet(a[0], a[1], a[2]);
            case "cell": return model.cell(a[0], a[1], a[2]);
            case "copy": return model.copy(a[0], a[1], a[2], a[3], a[4]);
            case "room": return model.room(a[0], a[1], a[2], a[3]);
            default: return model.taken(a[0], a[1]);
        }
    }
}
