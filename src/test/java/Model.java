import java.util.ArrayList;
import java.util.Arrays;
import java.util.HashMap;
import java.util.HashSet;
import java.util.List;
import java.util.Map;
import java.util.Set;
import java.util.TreeMap;

/**
 * The document said a second time, by other means than the class uses: texts are judged by an automaton and worked
 * out by splitting them, sets of twos and rings are all tried, thoughts are copies. Slow, and only for ModelRuns.
 */
final class Model {
    static final int NONE = -1, BAD = -2, STATE = -3, FULL = -4;
    static final long NO = -4611686018427387904L;

    static final class One {
        int kind, number, done;
        final Map<Integer, Integer> owes = new TreeMap<>();

        One like() {
            One o = new One();
            o.kind = kind; o.number = number; o.done = done;
            o.owes.putAll(owes);
            return o;
        }
    }

    final class Hall {
        int round, night, rule;
        List<One> ones = new ArrayList<>();
        int lastDanced;

        Hall like() {
            Hall h = new Hall();
            h.round = round; h.night = night; h.rule = rule;
            for (One o : ones) h.ones.add(o.like());
            return h;
        }

        int debt(int a, int b) { return ones.get(a).owes.getOrDefault(b, 0); }

        void debt(int a, int b, int v) { ones.get(a).owes.put(b, v); }

        int owedTo(int a) {
            int sum = 0;
            for (int b = 0; b < ones.size(); b++) if (b != a) sum += debt(b, a);
            return sum;
        }

        int owes(int a) { return ones.get(a).owes.values().stream().mapToInt(v -> v).sum(); }

        int all() {
            int sum = 0;
            for (int a = 0; a < ones.size(); a++) sum += owes(a);
            return sum;
        }

        int says(String part, int a, int owing) {
            Map<String, Integer> env = new HashMap<>();
            env.put("debt", owing);
            env.put("owed", owedTo(a));
            env.put("number", ones.get(a).number);
            env.put("round", round);
            env.put("done", ones.get(a).done);
            env.put("night", night);
            return texts.get(rule).get(part).at(env);
        }

        int held(String part, int a, int owing) { return clamp(says(part, a, owing), 99); }

        int pays(int a, int owing) {
            One o = ones.get(a);
            int v = held("pays", a, owing);
            int dancer = v, officer = 2 * dancer;
            int lamb = round % 2 == 0 ? officer + o.number : officer;
            int[] by = {dancer, officer, 1, lamb, owing, 0};
            return clamp(by[o.kind], owing);
        }

        boolean will(int a, int b) {
            One o = ones.get(a);
            boolean dancer = says("wills", a, debt(a, b)) != 0;
            boolean mother = dancer && debt(b, a) > 0;
            boolean[] by = {dancer, true, mother, o.done != o.number, mother || owedTo(a) == 0, false};
            return by[o.kind];
        }

        int breath(int a) {
            int v = held("breath", a, 0);
            int[] by = {v, v + 3, v / 2, v + 3, 99, ones.get(a).number};
            return clamp(by[ones.get(a).kind], 99);
        }

        boolean may(int a, int b) {
            if (debt(a, b) == 0 && debt(b, a) == 0) return false;
            if (!will(a, b) || !will(b, a)) return false;
            return ones.get(a).done < breath(a) && ones.get(b).done < breath(b);
        }

        int dance(int a, int b) {
            int p = pays(a, debt(a, b)), q = pays(b, debt(b, a));
            debt(a, b, debt(a, b) - p);
            debt(b, a, debt(b, a) - q);
            ones.get(a).done = Math.min(99, ones.get(a).done + 1);
            ones.get(b).done = Math.min(99, ones.get(b).done + 1);
            return p + q;
        }

        int aRound() {
            Set<Integer> danced = new HashSet<>();
            int paid = 0;
            for (int a = 0; a < ones.size(); a++)
                for (int b = a + 1; b < ones.size(); b++)
                    if (!danced.contains(a) && !danced.contains(b) && may(a, b)) {
                        paid += dance(a, b);
                        danced.add(a);
                        danced.add(b);
                    }
            round++;
            lastDanced = danced.stream().mapToInt(d -> 1 << d).sum();
            return paid;
        }

        int ends() {
            Hall h = like();
            for (int k = 0; k <= 60; k++) if (h.aRound() == 0) return k;
            return NONE;
        }

        List<int[]> twos() {
            List<int[]> l = new ArrayList<>();
            for (int a = 0; a < 5; a++) for (int b = a + 1; b < 5; b++) l.add(new int[] {a, b});
            return l;
        }

        /** All sets that may be danced now, by their bits, and what each pays. */
        Map<Integer, Integer> sets() {
            Map<Integer, Integer> m = new TreeMap<>();
            List<int[]> twos = twos();
            int[] pay = new int[10];
            boolean[] may = new boolean[10];
            for (int k = 0; k < 10; k++) {
                int a = twos.get(k)[0], b = twos.get(k)[1];
                may[k] = b < ones.size() && may(a, b);
                pay[k] = may[k] ? pays(a, debt(a, b)) + pays(b, debt(b, a)) : 0;
            }
            next: for (int set = 0; set < 1024; set++) {
                int seen = 0, paid = 0;
                for (int k = 0; k < 10; k++) if ((set & 1 << k) != 0) {
                    int both = 1 << twos.get(k)[0] | 1 << twos.get(k)[1];
                    if (!may[k] || (seen & both) != 0) continue next;
                    seen |= both;
                    paid += pay[k];
                }
                m.put(set, paid);
            }
            return m;
        }

        int best() {
            Map<Integer, Integer> m = sets();
            int most = m.values().stream().mapToInt(v -> v).max().getAsInt();
            return m.keySet().stream().filter(s -> m.get(s) == most).mapToInt(s -> s).min().getAsInt();
        }

        Hall by(int set) {
            Hall h = like();
            List<int[]> twos = twos();
            for (int k = 0; k < 10; k++) if ((set & 1 << k) != 0) {
                int a = twos.get(k)[0], b = twos.get(k)[1];
                int p = pays(a, debt(a, b)), q = pays(b, debt(b, a));
                h.debt(a, b, debt(a, b) - p);
                h.debt(b, a, debt(b, a) - q);
                h.ones.get(a).done = Math.min(99, ones.get(a).done + 1);
                h.ones.get(b).done = Math.min(99, ones.get(b).done + 1);
            }
            h.round = round + 1;
            return h;
        }

        String look() {
            StringBuilder s = new StringBuilder();
            for (One o : ones) {
                s.append(o.done).append('/');
                for (Map.Entry<Integer, Integer> e : o.owes.entrySet())
                    if (e.getValue() != 0) s.append(e.getKey()).append(':').append(e.getValue()).append(' ');
            }
            return s.toString();
        }

        int soonest() {
            Map<String, Hall> level = new HashMap<>();
            level.put(look(), this);
            for (int n = 0; n <= 3; n++) {
                for (Hall h : level.values()) if (h.all() == 0) return n;
                Map<String, Hall> deeper = new HashMap<>();
                if (n < 3) for (Hall h : level.values()) for (int set : h.sets().keySet()) {
                    Hall g = h.by(set);
                    deeper.put(g.look(), g);
                }
                level = deeper;
            }
            return NONE;
        }

        int ring() {
            int most = 0;
            int n = ones.size();
            int codes = (int) Math.pow(6, 5);
            for (int c = 0; c < codes; c++) {
                List<Integer> l = new ArrayList<>();
                for (int r = c; r > 0; r /= 6) l.add(r % 6 - 1);
                if (l.size() < 2 || new HashSet<>(l).size() < l.size()) continue;
                boolean all = true;
                for (int k = 0; k < l.size() && all; k++) {
                    int a = l.get(k), b = l.get((k + 1) % l.size());
                    all = a >= 0 && b >= 0 && a < n && b < n && debt(a, b) > 0;
                }
                if (all) most = Math.max(most, l.size());
            }
            return most;
        }
    }

    static int clamp(int v, int most) { return Math.min(most, Math.max(0, v)); }

    interface Node { int at(Map<String, Integer> env); }

    static final class Token {
        final int place; final String s;
        Token(int place, String s) { this.place = place; this.s = s; }
    }

    Hall now = new Hall();
    Hall kept;
    final List<Map<String, Node>> texts = new ArrayList<>();
    final StringBuilder tape = new StringBuilder();
    final long[][] sheets = new long[4][];
    final int[] sorts = {-1, -1, -1, -1};

    Model() {
        for (char c : "pays 1;wills 1;breath 4;".toCharArray()) tape.append(c);
        text();
    }

    boolean is(int a) { return 0 <= a && a < now.ones.size(); }

    boolean two(int a, int b) { return is(a) && is(b) && a != b; }

    static boolean in(int v, int least, int most) { return least <= v && v <= most; }

    int set(int what, int of, int v) {
        switch (what) {
            case 0: { if (!in(v, 0, 999)) return BAD; int w = now.round; now.round = v; return w; }
            case 1: { if (!in(v, 0, 999)) return BAD; int w = now.night; now.night = v; return w; }
            case 2: { if (!in(v, 0, 9) || !is(of)) return BAD; int w = now.ones.get(of).number; now.ones.get(of).number = v; return w; }
            case 3: { if (!in(v, 0, 99) || !is(of)) return BAD; int w = now.ones.get(of).done; now.ones.get(of).done = v; return w; }
            case 4: {
                if (of < 0 || !in(v, 0, 99) || !two(of / 10, of % 10)) return BAD;
                int w = now.debt(of / 10, of % 10);
                now.debt(of / 10, of % 10, v);
                return w;
            }
            default: return BAD;
        }
    }

    int dancer(int kind, int number) {
        if (!in(kind, 0, 5) || !in(number, 0, 9)) return BAD;
        if (now.ones.size() == 5) return FULL;
        One o = new One();
        o.kind = kind; o.number = number;
        now.ones.add(o);
        return now.ones.size() - 1;
    }

    int told(int of, int what) {
        if (what == 0) return now.round;
        if (what == 1) return now.night;
        if (what == 4) return of >= 0 && two(of / 10, of % 10) ? now.debt(of / 10, of % 10) : BAD;
        if (!is(of)) return BAD;
        One o = now.ones.get(of);
        if (what == 2) return o.number;
        if (what == 3) return o.done;
        if (what == 5) return o.kind;
        if (what == 6) return now.breath(of);
        if (what == 7) return now.owes(of);
        if (what == 8) return now.owedTo(of);
        return BAD;
    }

    int asks(int a, int b, int what) {
        if (!two(a, b)) return BAD;
        if (what == 0) return now.pays(a, now.debt(a, b));
        if (what == 1) return now.will(a, b) ? 1 : 0;
        if (what == 2) return now.may(a, b) ? 1 : 0;
        return BAD;
    }

    int feed(int letter) {
        if (!in(letter, 0, 255)) return BAD;
        if (tape.length() == 160) return FULL;
        tape.append((char) letter);
        return tape.length();
    }

    int text() {
        if (texts.size() == 6) return FULL;
        String s = tape.toString();
        tape.setLength(0);
        int fault = fault(s);
        if (fault >= 0) return -100 - fault;
        List<Token> l = tokens(s);
        Map<String, Node> parts = new HashMap<>();
        int from = 0;
        for (int k = 0; k < l.size(); k++) if (l.get(k).s.equals(";")) {
            parts.put(l.get(from).s, node(l.subList(from + 1, k)));
            from = k + 1;
        }
        texts.add(parts);
        return texts.size() - 1;
    }

    /** Behind the last good TOKEN stands "" for what is none, and "end". */
    static List<Token> tokens(String s) {
        List<Token> l = new ArrayList<>();
        java.util.regex.Matcher m = java.util.regex.Pattern.compile("[ \\n]+|[a-z]+|[0-9]+|[();+*<=-]").matcher(s);
        int at = 0;
        while (at < s.length()) {
            if (!m.find(at) || m.start() != at) { l.add(new Token(at, "")); return l; }
            String t = m.group();
            if (t.trim().length() > 0) {
                boolean word = Character.isLetter(t.charAt(0)), digits = Character.isDigit(t.charAt(0));
                if (word && !WORDS.contains(t) || digits && t.length() > 4) { l.add(new Token(at, "")); return l; }
                l.add(new Token(at, t));
            }
            at = m.end();
        }
        l.add(new Token(s.length(), "end"));
        return l;
    }

    static final List<String> NAMES = List.of("debt", "owed", "number", "round", "done", "night");
    static final List<String> WORDS = List.of("debt", "owed", "number", "round", "done", "night",
        "pays", "wills", "breath", "or", "and", "not");

    static int fault(String s) {
        List<Token> l = tokens(s);
        int[] at = {0};
        for (String key : new String[] {"pays", "wills", "breath"}) {
            if (!l.get(at[0]).s.equals(key)) return l.get(at[0]).place;
            at[0]++;
            int f = faultOfE(l, at);
            if (f >= 0) return f;
        }
        return l.get(at[0]).s.equals("end") ? -1 : l.get(at[0]).place;
    }

    /** An automaton: a frame for E itself and for each ( ; of each: nots and minuses that are open, and < or = seen. */
    static int faultOfE(List<Token> l, int[] at) {
        List<int[]> frames = new ArrayList<>();
        frames.add(new int[3]);
        boolean operand = true, notMay = true;
        for (;; at[0]++) {
            String t = l.get(at[0]).s;
            int place = l.get(at[0]).place;
            int[] top = frames.get(frames.size() - 1);
            int open = frames.size() - 1;
            for (int[] f : frames) open += f[0] + f[1];
            if (operand) {
                if (NAMES.contains(t) || t.matches("[0-9]+")) { top[1] = 0; operand = false; continue; }
                boolean opener = t.equals("-") || t.equals("(") || t.equals("not") && notMay;
                if (!opener || open == 5) return place;
                if (t.equals("-")) { top[1]++; notMay = false; }
                if (t.equals("not")) top[0]++;
                if (t.equals("(")) { frames.add(new int[3]); notMay = true; }
                continue;
            }
            switch (t) {
                case "*": case "+": case "-": operand = true; notMay = false; break;
                case "<": case "=":
                    if (top[2] == 1) return place;
                    top[2] = 1; operand = true; notMay = false; break;
                case "and": case "or": top[0] = 0; top[2] = 0; operand = true; notMay = true; break;
                case ")":
                    if (frames.size() == 1) return place;
                    frames.remove(frames.size() - 1);
                    frames.get(frames.size() - 1)[1] = 0;
                    break;
                case ";":
                    if (frames.size() > 1) return place;
                    at[0]++;
                    return -1;
                default: return place;
            }
        }
    }

    /** The last place, outside ( ), of one of these with something that ends an operand ahead of it; -1. */
    static int last(List<Token> l, String... of) {
        int depth = 0;
        for (int k = l.size() - 1; k > 0; k--) {
            String t = l.get(k).s, p = l.get(k - 1).s;
            if (t.equals(")")) depth++;
            if (t.equals("(")) depth--;
            boolean operandAhead = p.equals(")") || NAMES.contains(p) || p.matches("[0-9]+");
            if (depth == 0 && operandAhead && Arrays.asList(of).contains(t)) return k;
        }
        return -1;
    }

    static Node node(List<Token> l) {
        for (String[] signs : new String[][] {{"or"}, {"and"}, {"not"}, {"<", "="}, {"+", "-"}, {"*"}}) {
            if (signs[0].equals("not")) {
                if (l.get(0).s.equals("not")) {
                    Node n = node(l.subList(1, l.size()));
                    return e -> n.at(e) == 0 ? 1 : 0;
                }
                continue;
            }
            int k = last(l, signs);
            if (k < 0) continue;
            Node a = node(l.subList(0, k)), b = node(l.subList(k + 1, l.size()));
            switch (l.get(k).s) {
                case "or": return e -> a.at(e) != 0 | b.at(e) != 0 ? 1 : 0;
                case "and": return e -> a.at(e) != 0 & b.at(e) != 0 ? 1 : 0;
                case "<": return e -> a.at(e) < b.at(e) ? 1 : 0;
                case "=": return e -> a.at(e) == b.at(e) ? 1 : 0;
                case "+": return e -> a.at(e) + b.at(e);
                case "-": return e -> a.at(e) - b.at(e);
                default: return e -> a.at(e) * b.at(e);
            }
        }
        String t = l.get(0).s;
        if (t.equals("-")) {
            Node n = node(l.subList(1, l.size()));
            return e -> -n.at(e);
        }
        if (t.equals("(")) return node(l.subList(1, l.size() - 1));
        if (l.size() != 1) throw new IllegalStateException("split wrong");
        if (NAMES.contains(t)) return e -> e.get(t);
        int v = Integer.parseInt(t);
        return e -> v;
    }

    int force(int text) {
        if (!in(text, 0, texts.size() - 1)) return BAD;
        int w = now.rule;
        now.rule = text;
        return w;
    }

    int dance(int a, int b) {
        if (!two(a, b)) return BAD;
        return now.may(a, b) ? now.dance(a, b) : STATE;
    }

    int round() { return now.round == 999 ? STATE : now.aRound(); }

    int night() {
        if (now.night == 999) return STATE;
        int sum = 0;
        for (One o : now.ones) { sum += o.done; o.done = 0; }
        now.night++;
        return sum;
    }

    int strike(int digits) {
        String s = Integer.toString(digits);
        if (!s.matches("[1-5]{2,5}")) return BAD;
        List<Integer> l = new ArrayList<>();
        for (char c : s.toCharArray()) l.add(c - '1');
        if (new HashSet<>(l).size() < l.size()) return BAD;
        for (int a : l) if (!is(a)) return BAD;
        int least = 99;
        for (int k = 0; k < l.size(); k++) least = Math.min(least, now.debt(l.get(k), l.get((k + 1) % l.size())));
        if (least == 0) return STATE;
        for (int k = 0; k < l.size(); k++) {
            int a = l.get(k), b = l.get((k + 1) % l.size());
            now.debt(a, b, now.debt(a, b) - least);
        }
        return least;
    }

    int run(int n, int a, int b, int what) {
        if (!in(n, 0, 40) || !in(what, 0, 2) || what == 2 && !two(a, b)) return BAD;
        Hall h = now.like();
        for (int k = 0; k < n; k++) h.aRound();
        if (what == 0) return h.all();
        if (what == 2) return h.debt(a, b);
        int bits = 0;
        for (int k = 0; k < h.ones.size(); k++) if (h.owedTo(k) > 0) bits |= 1 << k;
        return bits;
    }

    int best(int what) {
        switch (what) {
            case 0: return now.best();
            case 1: return now.sets().get(now.best());
            case 2: { Hall h = now.like(); h.aRound(); return (1 << h.ones.size()) - 1 - h.lastDanced; }
            case 3: return now.like().aRound();
            case 4: return now.soonest();
            case 5: {
                int sum = 0;
                for (int a = 0; a < now.ones.size(); a++) sum += Math.abs(now.owes(a) - now.owedTo(a));
                return sum / 2;
            }
            case 6: return now.ring();
            case 7: return now.ends();
            case 8: {
                int who = NONE;
                for (int a = now.ones.size() - 1; a >= 0; a--)
                    if (now.owedTo(a) > 0 && (who < 0 || now.owedTo(a) >= now.owedTo(who))) who = a;
                return who;
            }
            default: return BAD;
        }
    }

    static long part(int above, int below, int part) {
        java.math.BigInteger g = java.math.BigInteger.valueOf(above).gcd(java.math.BigInteger.valueOf(below));
        return (part == 0 ? above : below) / g.longValue();
    }

    long share(int a, int part) {
        if (!is(a) || !in(part, 0, 1) || now.all() == 0) return NO;
        return part(now.owes(a), now.all(), part);
    }

    int tells(int sheet, int a, int b, int what) {
        if (!in(sheet, 0, 3) || !two(a, b) || !in(what, 0, 8)) return BAD;
        long[] row = sheets[sheet];
        if (row == null) return -11;
        if (row.length > 30) return BAD;
        switch (what) {
            case 0: return otherwise(now, row, a);
            case 1: return bits(row, a, 6, (h, k) -> h.ones.get(a).kind = k);
            case 2: return bits(row, a, 10, (h, k) -> h.ones.get(a).number = k);
            case 3: return hundred(row, a, (h, k) -> h.round = k).size();
            case 4: return least(hundred(row, a, (h, k) -> h.round = k));
            case 5: return hundred(row, a, (h, k) -> h.ones.get(a).done = k).size();
            case 6: return least(hundred(row, a, (h, k) -> h.ones.get(a).done = k));
            case 7: return bits(row, a, texts.size(), (h, k) -> h.rule = k);
            default: {
                int bits = 0;
                for (int c = 0; c < now.ones.size(); c++) if (c != b && otherwise(now, row, c) < 0) bits |= 1 << c;
                return bits;
            }
        }
    }

    interface Change { void by(Hall h, int k); }

    static int least(List<Integer> l) { return l.isEmpty() ? NONE : l.get(0); }

    int otherwise(Hall h, long[] row, int a) {
        for (int k = 0; k < row.length; k++) if (h.pays(a, k) != row[k]) return k;
        return NONE;
    }

    List<Integer> so(long[] row, int a, int n, Change change) {
        List<Integer> l = new ArrayList<>();
        for (int k = 0; k < n; k++) {
            Hall h = now.like();
            change.by(h, k);
            if (otherwise(h, row, a) < 0) l.add(k);
        }
        return l;
    }

    int bits(long[] row, int a, int n, Change change) {
        return so(row, a, n, change).stream().mapToInt(k -> 1 << k).sum();
    }

    List<Integer> hundred(long[] row, int a, Change change) { return so(row, a, 100, change); }

    int film(int sheet, int a, int b, int n) {
        if (!in(sheet, 0, 3) || !two(a, b) || !in(n, 0, 30)) return BAD;
        sheets[sheet] = new long[n];
        sorts[sheet] = 0;
        int sum = 0;
        for (int k = 0; k < n; k++) sum += sheets[sheet][k] = now.pays(a, k);
        return sum;
    }

    int drawn(int seed) {
        Hall h = now.like();
        int z = seed;
        for (int a = 0; a < h.ones.size(); a++) for (int b = 0; b < h.ones.size(); b++) if (a != b) {
            z = z * 1103515245 + 12345;
            h.debt(a, b, (z >>> 9) % 4);
        }
        return h.ends();
    }

    long chance(int seed, int m, int k, int part) {
        if (!in(m, 1, 10) || !in(k, 0, 61) || !in(part, 0, 1)) return NO;
        int n = 0;
        for (int j = 0; j < m; j++) {
            int e = drawn(seed + j);
            if (e < 0) e = 61;
            if (e <= k) n++;
        }
        return part(n, m, part);
    }

    int image() {
        kept = now.like();
        return kept.ones.size();
    }

    int back() {
        if (kept == null) return STATE;
        now = kept.like();
        return now.ones.size();
    }

    int count(int what) {
        int[] counts = {now.ones.size(), now.all(), now.round, texts.size(), tape.length(), now.rule};
        return in(what, 0, 5) ? counts[what] : BAD;
    }

    int sheet(int sheet, int sort, int n) {
        if (!in(sheet, 0, 3) || !in(sort, -1, 2)) return BAD;
        if (sort == -1) { sheets[sheet] = null; sorts[sheet] = -1; return 1; }
        if (n > 40) return BAD;
        if (n < 0) return -14;
        sheets[sheet] = new long[n];
        sorts[sheet] = sort;
        return 1;
    }

    int cell(int sheet, int i, int v) {
        if (!in(sheet, 0, 3)) return BAD;
        if (sheets[sheet] == null) return -11;
        if (!in(i, 0, sheets[sheet].length - 1)) return -12;
        sheets[sheet][i] = sorts[sheet] == 0 ? (byte) v : sorts[sheet] == 1 ? (short) v : v;
        return 1;
    }

    int copy(int sheet, int i, int other, int j, int n) {
        if (!in(sheet, 0, 3) || !in(other, 0, 3)) return BAD;
        if (sheets[sheet] == null || sheets[other] == null) return -11;
        if (sorts[sheet] != sorts[other]) return -13;
        long[] from = sheets[sheet].clone();
        if (n < 0 || i < 0 || j < 0 || (long) i + n > from.length || (long) j + n > sheets[other].length) return -12;
        for (int k = 0; k < n; k++) sheets[other][j + k] = from[i + k];
        return n;
    }

    int room(int sheet, int sort, int from, int n) {
        if (!in(sheet, 0, 3) || !in(sort, 0, 2) || !in(n, 0, 5)) return BAD;
        if (sheets[sheet] != null && sorts[sheet] != sort) return -13;
        if (sheets[sheet] == null) return -11;
        int came = 0;
        for (int k = 0; k < n; k++) {
            long at = (long) from + 2 * k;
            if (at < 0 || at + 1 >= sheets[sheet].length) return -12;
            if (dancer((int) sheets[sheet][(int) at], (int) sheets[sheet][(int) at + 1]) >= 0) came++;
        }
        return came;
    }

    int taken(int a, int k) {
        if (!in(k, 0, 5)) return BAD;
        if (!is(a)) return -11;
        String[] above = {"0", "01", "02", "013", "024", "05"};
        return above[now.ones.get(a).kind].indexOf('0' + k) >= 0 ? now.ones.get(a).number : -13;
    }
}
