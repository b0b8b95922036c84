import java.util.ArrayList;
import java.util.List;

/**
 * What the tests of edges share: the sentence of the document that is tested, what is due by it, and scenes in which
 * a refused call must leave everything as it is. Whatever is looked at is made anew, so that no object is used for
 * more than the 512 calls for which answers are promised.
 */
abstract class Edges {
    static final int NONE = -1, BAD = -2, STATE = -3, FULL = -4;
    static final int NOTHING = -11, OUTSIDE = -12, UNLIKE = -13, BELOW = -14;
    static final long NO = -4611686018427387904L;
    static final int DANCER = 0, OFFICER = 1, MOTHER = 2, LAMB = 3, WALLFLOWER = 4, BAND = 5;
    static final int LEAST = Integer.MIN_VALUE, MOST = Integer.MAX_VALUE;

    /** A call whose answer is asked for, on an object that is handed in. */
    interface Call {
        long on(DanceStillOwed x);
    }

    /** How an object is brought as far as a test needs it. */
    interface Scene {
        DanceStillOwed made();
    }

    static final Scene BARE = DanceStillOwed::new;
    static final Scene BUSY = Edges::busy;
    static final Scene CROWDED = Edges::crowded;
    static final Scene WRITTEN = Edges::written;
    static final Scene TAPED = Edges::taped;
    private static final Scene[] ALL = {BARE, BUSY, CROWDED, WRITTEN, TAPED};

    private static String sentence = "";
    private static int sentences;
    private static int sound;
    private static int failed;

    /** A test begins: the promise and the words of the document that it holds the class to. */
    static void says(int promise, String words) {
        sentence = "promise " + promise + ", \"" + words + "\"";
        sentences++;
    }

    static void due(String what, long got, long want) {
        if (got == want) {
            sound++;
        } else {
            failed++;
            System.out.println(sentence + ": " + what + " answered " + got + ", due is " + want);
        }
    }

    /** All that can be told of the one is as it is of the other. */
    static void same(String what, DanceStillOwed one, DanceStillOwed other) {
        due(what + ": all is as it was", look(one).equals(look(other)) ? 1 : 0, 1);
    }

    /** It is not refused, whatever it answers. */
    static void answered(String what, long got) {
        due(what + " is answered", got < 0 ? got : 1, 1);
    }

    static void end(String name) {
        System.out.println(name + ": " + sentences + " sentences, " + sound + " answers as due, " + failed + " not");
        if (failed > 0) {
            System.exit(1);
        }
    }

    /** The call is refused so in each scene (in all if none is named), and leaves all as it is where it was not made. */
    static void refused(String what, long want, Call call, Scene... scenes) {
        for (Scene scene : scenes.length == 0 ? ALL : scenes) {
            DanceStillOwed x = scene.made();
            due(what, call.on(x), want);
            DanceStillOwed untouched = scene.made();
            String is = look(x) + usedUp(x);
            String was = look(untouched) + usedUp(untouched);
            if (is.equals(was)) {
                sound++;
            } else {
                failed++;
                System.out.println(sentence + ": " + what + " was refused and changed\n  " + was + "\n  " + is);
            }
        }
    }

    /** The first numbers that are none of least .. most, and the farthest. */
    static int[] beside(int least, int most) {
        return new int[] {least - 1, most + 1, LEAST, MOST};
    }

    /** Of n DANCERS: what is no two. */
    static int[][] noTwos(int n) {
        int[][] twos = new int[12 + n][];
        int k = 0;
        for (int none : beside(0, n - 1)) {
            twos[k++] = new int[] {none, 0};
            twos[k++] = new int[] {0, none};
            twos[k++] = new int[] {none, none};
        }
        for (int one = 0; one < n; one++) {
            twos[k++] = new int[] {one, one};
        }
        return twos;
    }

    /** DANCERS: the KIND and the NUMBER of each. */
    static DanceStillOwed room(int... kindsAndNumbers) {
        DanceStillOwed x = new DanceStillOwed();
        for (int k = 0; k + 1 < kindsAndNumbers.length; k += 2) {
            x.dancer(kindsAndNumbers[k], kindsAndNumbers[k + 1]);
        }
        return x;
    }

    /** So many of one KIND, with NUMBER 0. */
    static DanceStillOwed many(int n, int kind) {
        DanceStillOwed x = new DanceStillOwed();
        for (int k = 0; k < n; k++) {
            x.dancer(kind, 0);
        }
        return x;
    }

    /** DEBTS: 10 times who OWES and to whom, how many, and so on. */
    static DanceStillOwed owing(DanceStillOwed x, int... debts) {
        for (int k = 0; k + 1 < debts.length; k += 2) {
            x.set(4, debts[k], debts[k + 1]);
        }
        return x;
    }

    static void feed(DanceStillOwed x, String s) {
        for (int k = 0; k < s.length(); k++) {
            x.feed(s.charAt(k));
        }
    }

    static int text(DanceStillOwed x, String s) {
        feed(x, s);
        return x.text();
    }

    /** A text that becomes THE RULE. */
    static DanceStillOwed rule(DanceStillOwed x, String s) {
        int text = text(x, s);
        due("text of " + s, text > 0 ? 1 : text, 1);
        x.force(text);
        return x;
    }

    /** A SHEET of a sort with these numbers. */
    static void row(DanceStillOwed x, int sheet, int sort, int... cells) {
        x.sheet(sheet, sort, cells.length);
        for (int k = 0; k < cells.length; k++) {
            x.cell(sheet, k, cells[k]);
        }
    }

    /** A SHEET of 0, 1, 2, ..: what a WALLFLOWER PAYS, so that tells() sees every change of it. */
    static void count(DanceStillOwed x, int sheet, int sort, int n) {
        x.sheet(sheet, sort, n);
        for (int k = 1; k < n; k++) {
            x.cell(sheet, k, k);
        }
    }

    /** All rings of 2 .. 5 of five DANCERS, from each of these on, as digits: 1 more than each. */
    static List<Integer> rings() {
        List<Integer> rings = new ArrayList<>();
        for (int digits = 12; digits <= 54321; digits++) {
            String s = "" + digits;
            boolean is = true;
            for (int k = 0; k < s.length(); k++) {
                is = is && s.charAt(k) >= '1' && s.charAt(k) <= '5' && s.indexOf(s.charAt(k)) == k;
            }
            if (is) {
                rings.add(digits);
            }
        }
        return rings;
    }

    /** The DEBTS round a ring, each to the next one, the last to the first: how they are named. */
    static int[] round(int ring) {
        String s = "" + ring;
        int[] debts = new int[s.length()];
        for (int k = 0; k < debts.length; k++) {
            debts[k] = 10 * (s.charAt(k) - '1') + s.charAt((k + 1) % debts.length) - '1';
        }
        return debts;
    }

    static int debt(DanceStillOwed x, int of) {
        return x.told(of, 4);
    }

    /** Three DANCERS, a TEXT beside TEXT 0 that is THE RULE, one on THE TAPE, an IMAGE of other days, three SHEETS. */
    private static DanceStillOwed busy() {
        DanceStillOwed x = owing(room(WALLFLOWER, 2, OFFICER, 4, DANCER, 6), 1, 5, 12, 3, 20, 4, 21, 1);
        x.set(0, 0, 7);
        x.set(1, 0, 3);
        x.set(3, 1, 1);
        x.image();
        rule(x, "pays 2;wills 1;breath 5;");
        x.set(0, 0, 8);
        x.set(1, 0, 4);
        x.set(2, 2, 7);
        x.set(3, 1, 2);
        owing(x, 21, 2);
        feed(x, "pays 3;wills 1;breath 6;");
        for (int sheet = 0; sheet < 3; sheet++) {
            count(x, sheet, sheet, 6);
        }
        return x;
    }

    /** Five DANCERS in the last ROUND of the last NIGHT. */
    private static DanceStillOwed crowded() {
        DanceStillOwed x = room(WALLFLOWER, 1, DANCER, 2, OFFICER, 3, LAMB, 4, MOTHER, 5);
        owing(x, 1, 2, 12, 2, 23, 2, 34, 2, 40, 2);
        x.image();
        for (int one = 0; one < 5; one++) {
            x.set(3, one, 1);
        }
        x.set(0, 0, 999);
        x.set(1, 0, 999);
        count(x, 3, 0, 30);
        return x;
    }

    /** As many TEXTS as can be, and THE TAPE full. */
    private static DanceStillOwed written() {
        DanceStillOwed x = owing(room(WALLFLOWER, 0, DANCER, 0), 1, 9, 10, 9);
        for (int k = 1; k < 6; k++) {
            text(x, "pays" + k + ";wills1;breath4;");
        }
        x.force(3);
        feed(x, " ".repeat(160));
        return x;
    }

    /** THE TAPE full, with a TEXT on it. */
    private static DanceStillOwed taped() {
        DanceStillOwed x = owing(room(WALLFLOWER, 0, DANCER, 0), 1, 9, 10, 9);
        feed(x, "pays 3;wills 1;breath 6;" + "\n".repeat(160 - 24));
        return x;
    }

    /** All that can be told without using it up. */
    static String look(DanceStillOwed x) {
        StringBuilder s = new StringBuilder(lookAtRoom(x));
        s.append("best");
        for (int what = 0; what < 9; what++) {
            s.append(' ').append(x.best(what));
        }
        for (int sheet = 0; sheet < 4; sheet++) {
            s.append(" sheet");
            for (int sort = 0; sort < 3; sort++) {
                s.append(' ').append(x.room(sheet, sort, 0, 0));
            }
            int n = 0;
            while (n < 40 && x.copy(sheet, 0, sheet, 0, n + 1) > 0) {
                n++;
            }
            s.append(" of ").append(n).append(" told ").append(x.tells(sheet, 0, 1, 0));
        }
        return s.toString();
    }

    private static String lookAtRoom(DanceStillOwed x) {
        StringBuilder s = new StringBuilder("counts");
        for (int what = 0; what < 6; what++) {
            s.append(' ').append(x.count(what));
        }
        s.append(" round ").append(x.told(0, 0)).append(" night ").append(x.told(0, 1)).append(" dancers");
        int n = x.count(0);
        for (int one = 0; one < n; one++) {
            for (int what = 2; what < 9; what++) {
                s.append(' ').append(what == 4 ? 0 : x.told(one, what));
            }
            for (int other = 0; other < n; other++) {
                s.append(' ').append(one == other ? 0 : debt(x, 10 * one + other));
            }
            s.append(',');
        }
        return s.append(' ').toString();
    }

    /** What can be seen only once: what stands on THE TAPE, and what THE IMAGE keeps. */
    private static String usedUp(DanceStillOwed x) {
        StringBuilder s = new StringBuilder(" tape ");
        s.append(x.text()).append(' ').append(x.force(x.count(3) - 1)).append(' ').append(x.asks(1, 0, 0));
        s.append(" image ").append(x.back()).append(' ').append(lookAtRoom(x));
        return s.toString();
    }
}
