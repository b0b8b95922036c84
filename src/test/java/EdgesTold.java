/** The edges of promises 16 to 22: paying that was told, DEBTS that are drawn, AN IMAGE, and what is counted. */
public final class EdgesTold extends Edges {
    public static void main(String[] args) {
        tellsBad();
        tellsMissing();
        tellsSize();
        tellsFirst();
        tellsKinds();
        tellsNumbers();
        tellsHundreds();
        tellsTexts();
        tellsDancers();
        tellsNone();
        tellsInThought();
        filmBad();
        filmBounds();
        drawnFew();
        drawnWraps();
        chanceNo();
        chanceBounds();
        chanceLowest();
        chanceWraps();
        imageAndBack();
        imageOfFew();
        imageOfAll();
        countWhat();
        countBounds();
        end("EdgesTold");
    }

    private static void tellsBad() {
        for (int what = 0; what < 9; what++) {
            int asked = what;
            says(16, "BAD: SHEET, with what " + what);
            for (int sheet : beside(0, 3)) {
                refused("SHEET " + sheet, BAD, x -> x.tells(sheet, 0, 1, asked));
            }
            says(16, "BAD: no such two, one and the same, with what " + what);
            for (int[] two : noTwos(3)) {
                refused("of " + two[0] + " and " + two[1], BAD, x -> x.tells(0, two[0], two[1], asked), BUSY);
            }
            refused("where nobody is", BAD, x -> x.tells(0, 0, 1, asked), BARE);
            refused("5 beside five", BAD, x -> x.tells(3, 5, 0, asked), CROWDED);
            refused("5 beside five", BAD, x -> x.tells(3, 0, 5, asked), CROWDED);
            DanceStillOwed x = CROWDED.made();
            due("of the last two", x.tells(3, 4, 3, what) == BAD ? BAD : 1, 1);
            due("of the last two", x.tells(3, 3, 4, what) == BAD ? BAD : 1, 1);
        }
        says(16, "BAD: what");
        for (int what : beside(0, 8)) {
            refused("what " + what, BAD, x -> x.tells(0, 0, 1, what));
        }
    }

    private static void tellsMissing() {
        says(16, "-11: the SHEET is missing");
        for (int what = 0; what < 9; what++) {
            int asked = what;
            refused("SHEET 3, what " + what, NOTHING, x -> x.tells(3, 0, 1, asked), BUSY);
            refused("SHEET 0, what " + what, NOTHING, x -> x.tells(0, 0, 1, asked), CROWDED, TAPED);
        }
        says(16, "BAD; -11: the first that the words name");
        refused("no such two", BAD, x -> x.tells(3, 0, 3, 0), BUSY);
        refused("one and the same", BAD, x -> x.tells(3, 1, 1, 0), BUSY);
        refused("what 9", BAD, x -> x.tells(3, 0, 1, 9), BUSY);
        refused("what -1", BAD, x -> x.tells(3, 0, 1, -1), BUSY);
        refused("where nobody is", BAD, x -> x.tells(0, 0, 1, 0), BARE);
    }

    private static void tellsSize() {
        says(16, "BAD: it tells more than 30");
        for (int n = 0; n <= 40; n++) {
            int cells = n;
            for (int what = 0; what < 9; what++) {
                int asked = what;
                Scene rows = () -> {
                    DanceStillOwed x = many(2, WALLFLOWER);
                    x.sheet(1, 2, cells);
                    return x;
                };
                if (n > 30) {
                    refused(n + " numbers, what " + what, BAD, x -> x.tells(1, 0, 1, asked), rows);
                } else if (what == 0) {
                    due(n + " numbers", rows.made().tells(1, 0, 1, 0), n < 2 ? NONE : 1);
                }
            }
        }
    }

    private static void tellsFirst() {
        says(16, "TOLD of a DEBT of 0, 1, .. (30 at most numbers): the first that is otherwise; NONE");
        for (int sort = 0; sort < 3; sort++) {
            DanceStillOwed x = many(2, WALLFLOWER);
            count(x, sort, sort, 30);
            due("all are so", x.tells(sort, 0, 1, 0), NONE);
            for (int at = 29; at >= 0; at--) {
                x.cell(sort, at, at + 1);
                due("1 more at " + at, x.tells(sort, 0, 1, 0), at);
                x.cell(sort, at, at - 1);
                due("1 less at " + at, x.tells(sort, 0, 1, 0), at);
                x.cell(sort, at, at);
            }
            due("all are so again", x.tells(sort, 0, 1, 0), NONE);
            x.cell(sort, 29, 0);
            x.cell(sort, 2, 0);
            due("the first of two", x.tells(sort, 0, 1, 0), 2);
        }
        says(16, "a SHEET of no numbers tells nothing that is otherwise");
        DanceStillOwed y = many(5, MOTHER);
        y.sheet(0, 0, 0);
        int[] answers = {NONE, 63, 1023, 100, 0, 100, 0, 1, 29};
        for (int what = 0; what < 9; what++) {
            due("what " + what, y.tells(0, 0, 1, what), answers[what]);
        }
    }

    private static void tellsKinds() {
        says(16, "KINDS (bits 0 .. 5) by which all would be so");
        for (int kind = 0; kind < 6; kind++) {
            DanceStillOwed x = room(kind, 5, DANCER, 0);
            rule(x, "pays 3;wills 1;breath 4;");
            x.film(0, 0, 1, 30);
            due("KIND " + kind, x.tells(0, 0, 1, 1), 1 << kind);
            x.set(0, 0, 999);
            x.film(0, 0, 1, 30);
            due("KIND " + kind + " in an odd ROUND", x.tells(0, 0, 1, 1),
                kind == OFFICER || kind == LAMB ? 1 << OFFICER | 1 << LAMB : 1 << kind);
        }
    }

    private static void tellsNumbers() {
        says(16, "NUMBERS (bits 0 .. 9) by which all would be so");
        for (int number = 0; number < 10; number++) {
            DanceStillOwed x = room(LAMB, number, DANCER, 0);
            x.film(0, 0, 1, 30);
            x.set(2, 0, 4);
            due("NUMBER " + number, x.tells(0, 0, 1, 2), 1 << number);
            rule(x, "pays number<" + number + ";wills 1;breath 4;");
            x.set(0, 0, 1);
            row(x, 1, 0, 0, 1, 2);
            due("below " + number, x.tells(1, 0, 1, 2), (1 << number) - 1);
        }
        DanceStillOwed y = rule(many(2, DANCER), "pays number=10;wills 1;breath 4;");
        row(y, 0, 0, 0, 1);
        due("of no NUMBER", y.tells(0, 0, 1, 2), 0);
    }

    /** ROUNDS and DONES are looked for in the same hundred. */
    private static void tellsHundreds() {
        String[] names = {"round", "done"};
        for (int k = 0; k < 2; k++) {
            int many = 3 + 2 * k;
            int least = 4 + 2 * k;
            says(16, names[k] + "s (of 0 .. 99: how many, the least)");
            DanceStillOwed x = many(2, DANCER);
            row(x, 0, 0, 0, 1);
            int[][] bounds = {{0, 0}, {0, 1}, {1, 1}, {50, 52}, {98, 99}, {99, 99}, {98, 100}, {99, 999}};
            for (int[] b : bounds) {
                DanceStillOwed y = rule(many(2, DANCER),
                    "pays not " + names[k] + "<" + b[0] + " and not " + b[1] + "<" + names[k] + ";wills 1;breath 4;");
                row(y, 0, 0, 0, 1);
                due(b[0] + " to " + b[1] + ": how many", y.tells(0, 0, 1, many), Math.min(b[1], 99) - b[0] + 1);
                due(b[0] + " to " + b[1] + ": the least", y.tells(0, 0, 1, least), b[0]);
            }
            due("all: how many", x.tells(0, 0, 1, many), 100);
            due("all: the least", x.tells(0, 0, 1, least), 0);
            DanceStillOwed none = rule(many(2, DANCER), "pays " + names[k] + "=100;wills 1;breath 4;");
            row(none, 0, 0, 0, 1);
            due("none: how many", none.tells(0, 0, 1, many), 0);
            due("none: the least (NONE)", none.tells(0, 0, 1, least), NONE);
        }
    }

    private static void tellsTexts() {
        says(16, "TEXTS (bits) by which all would be so");
        DanceStillOwed x = many(2, DANCER);
        for (int k = 1; k < 6; k++) {
            row(x, 0, 0, 0, 1);
            due("of " + k, x.tells(0, 0, 1, 7), (1 << k) - 1);
            text(x, "pays" + k + ";wills1;breath1;");
        }
        due("of 6", x.tells(0, 0, 1, 7), 63);
        row(x, 0, 0, 0, 1, 2, 3, 4, 5);
        due("the last", x.tells(0, 0, 1, 7), 32);
        row(x, 0, 0, 0, 1, 1);
        due("the first two", x.tells(0, 0, 1, 7), 3);
        row(x, 0, 0, 0, 1, 2, 3, 4, 4);
        due("the last but one", x.tells(0, 0, 1, 7), 16);
    }

    private static void tellsDancers() {
        says(16, "DANCERS (bits) of whom, to that other one, it is so (not that one)");
        DanceStillOwed x = many(5, WALLFLOWER);
        count(x, 0, 1, 30);
        for (int other = 0; other < 5; other++) {
            int one = other == 0 ? 1 : 0;
            due("to " + other, x.tells(0, one, other, 8), 31 - (1 << other));
        }
        DanceStillOwed y = room(DANCER, 0, OFFICER, 0, DANCER, 0, MOTHER, 0, BAND, 0);
        row(y, 0, 1, 0, 1, 1);
        due("of those who PAY 1", y.tells(0, 4, 0, 8), 4 + 8);
        due("of those who PAY 1, to the last", y.tells(0, 1, 4, 8), 1 + 4 + 8);
        row(y, 0, 1, 0, 1, 2);
        due("of an OFFICER", y.tells(0, 0, 2, 8), 2);
        due("to the OFFICER", y.tells(0, 0, 1, 8), 0);
    }

    private static void tellsNone() {
        says(16, "were all otherwise, no bits");
        DanceStillOwed x = many(5, DANCER);
        row(x, 0, 2, 1);
        int[] answers = {0, 0, 0, 0, NONE, 0, NONE, 0, 0};
        for (int what = 0; what < 9; what++) {
            due("what " + what, x.tells(0, 0, 1, what), answers[what]);
        }
    }

    private static void tellsInThought() {
        says(16, "what is asked changes nothing");
        for (int what = 0; what < 9; what++) {
            DanceStillOwed x = BUSY.made();
            for (int sheet = 0; sheet < 3; sheet++) {
                x.tells(sheet, 0, 1, what);
                x.tells(sheet, 2, 1, what);
            }
            same("what " + what, x, BUSY.made());
        }
    }

    private static void filmBad() {
        says(17, "BAD: no such SHEET");
        for (int sheet : beside(0, 3)) {
            refused("SHEET " + sheet, BAD, x -> x.film(sheet, 0, 1, 1));
        }
        says(17, "BAD: no such two, one and the same");
        for (int[] two : noTwos(3)) {
            refused("of " + two[0] + " and " + two[1], BAD, x -> x.film(0, two[0], two[1], 5), BUSY);
        }
        refused("where nobody is", BAD, x -> x.film(0, 0, 1, 5), BARE);
        refused("where nobody is, of none", BAD, x -> x.film(0, 0, 1, 0), BARE);
        says(17, "n 0 .. 30; BAD");
        for (int n : beside(0, 30)) {
            refused("n " + n, BAD, x -> x.film(0, 0, 1, n));
            refused("n " + n + " on a missing SHEET", BAD, x -> x.film(3, 0, 1, n), BUSY);
        }
    }

    private static void filmBounds() {
        says(17, "A SHEET becomes what one PAYS another one of a DEBT of 0, .., n less 1 (n 0 .. 30): all, together");
        for (int n = 0; n <= 30; n++) {
            DanceStillOwed x = many(2, WALLFLOWER);
            due("of " + n, x.film(3, 0, 1, n), n * (n - 1) / 2);
            due("so many", x.copy(3, 0, 3, 0, n), n);
            due("and no more", x.copy(3, 0, 3, 0, n + 1), OUTSIDE);
            due("as told", x.tells(3, 0, 1, 0), NONE);
        }
        due("of a BAND", room(BAND, 9, DANCER, 0).film(0, 0, 1, 30), 0);
        due("of a DEBT that is not owed", owing(many(2, DANCER), 1, 99).film(0, 0, 1, 3), 2);
        says(17, "bytes, whatever it was");
        for (int sort = -1; sort < 3; sort++) {
            DanceStillOwed x = many(2, WALLFLOWER);
            x.sheet(0, sort, 40);
            due("a row of another length", x.film(0, 0, 1, 5), 10);
            due("of bytes", x.room(0, 0, 0, 0), 0);
            due("of no ints", x.room(0, 2, 0, 0), UNLIKE);
            due("of 5", x.cell(0, 4, 4), 1);
            due("of no more", x.cell(0, 5, 5), OUTSIDE);
        }
        DanceStillOwed y = room(WALLFLOWER, 0, BAND, 0);
        y.film(0, 0, 1, 5);
        y.film(0, 1, 0, 5);
        due("all anew", y.tells(0, 1, 0, 0), NONE);
        says(17, "truly, but nobody DANCES");
        DanceStillOwed z = BUSY.made();
        z.film(0, 0, 1, 6);
        same("of the same numbers", z, BUSY.made());
    }

    /** ENDS, by hand: the DEBTS that a SEED draws are laid on an object of its own. */
    private static int endsOf(Scene scene, int seed) {
        DanceStillOwed x = scene.made();
        int n = x.count(0);
        long z = seed;
        for (int one = 0; one < n; one++) {
            for (int to = 0; to < n; to++) {
                if (to != one) {
                    z = z * 1103515245L + 12345L & 0xFFFFFFFFL;
                    x.set(4, 10 * one + to, (int) (z / 512 % 4));
                }
            }
        }
        return x.best(7);
    }

    private static void drawnFew() {
        says(18, "DRAWN, where there are no DEBTS to draw");
        for (int seed : new int[] {0, 1, -1, LEAST, MOST}) {
            due("where nobody is", new DanceStillOwed().drawn(seed), 0);
            due("where one is", room(DANCER, 0).drawn(seed), 0);
        }
        says(18, "all DEBTS would be DRAWN, and are not");
        for (Scene scene : new Scene[] {BARE, BUSY, CROWDED}) {
            DanceStillOwed x = scene.made();
            x.drawn(77);
            x.chance(77, 10, 5, 0);
            same("drawn", x, scene.made());
        }
        says(18, "what is OWED now does not matter");
        due("of two", owing(many(2, DANCER), 1, 99, 10, 99).drawn(5), many(2, DANCER).drawn(5));
    }

    private static void drawnWraps() {
        says(18, "z * 1103515245 + 12345 (an int), (z >>> 9) % 4, anew for each, by who OWES, then to whom");
        for (int n = 2; n <= 5; n++) {
            int dancers = n;
            Scene scene = () -> rule(many(dancers, DANCER), "pays 1;wills 1;breath 99;");
            for (int seed : new int[] {0, 1, -1, 2, -2, LEAST, LEAST + 1, MOST, MOST - 1, 65536, -65536, 1 << 30, 12345}) {
                due(n + " by " + seed, scene.made().drawn(seed), endsOf(scene, seed));
            }
            for (int seed = 1; seed < 60; seed++) {
                due(n + " by " + seed * 99991, scene.made().drawn(seed * 99991), endsOf(scene, seed * 99991));
            }
        }
        Scene late = () -> {
            DanceStillOwed x = rule(room(DANCER, 1, LAMB, 2, MOTHER, 3, OFFICER, 4, WALLFLOWER, 5), "pays 1+(999<round);wills 1;breath 99;");
            x.set(0, 0, 999);
            return x;
        };
        for (int seed = 0; seed < 60; seed++) {
            due("from ROUND 999 by " + seed, late.made().drawn(seed), endsOf(late, seed));
        }
    }

    private static void chanceNo() {
        for (int part = 0; part < 2; part++) {
            int asked = part;
            says(19, "NO: m (1 .. 10), part " + part);
            for (int m : beside(1, 10)) {
                refused("m " + m, NO, x -> x.chance(0, m, 0, asked));
            }
            says(19, "NO: k (0 .. 61), part " + part);
            for (int k : beside(0, 61)) {
                refused("k " + k, NO, x -> x.chance(0, 1, k, asked));
            }
        }
        says(19, "NO: part");
        for (int part : beside(0, 1)) {
            refused("part " + part, NO, x -> x.chance(0, 1, 0, part));
        }
    }

    /** By how many of m seeds it ENDS behind k ROUNDS or less, by hand. */
    private static int soon(Scene scene, int seed, int m, int k) {
        int soon = 0;
        for (int j = 0; j < m; j++) {
            int ends = endsOf(scene, seed + j);
            soon += k == 61 || ends != NONE && ends <= k ? 1 : 0;
        }
        return soon;
    }

    private static void chanceBounds() {
        says(19, "IN m seeds (1 .. 10), SEED and each 1 more: of these those by which ENDS is k (0 .. 61) or less");
        Scene scene = () -> many(3, DANCER);
        for (int m = 1; m <= 10; m++) {
            for (int k : new int[] {0, 1, 2, 3, 4, 5, 6, 7, 8, 60, 61}) {
                int soon = soon(scene, 31, m, k);
                DanceStillOwed x = scene.made();
                due("m " + m + ", k " + k, x.chance(31, m, k, 0) * m, soon * x.chance(31, m, k, 1));
            }
        }
        says(19, "k or less: at k, and not at 1 less");
        for (int seed = 0; seed < 30; seed++) {
            int ends = endsOf(scene, seed);
            due("SEED " + seed + ", at k", scene.made().chance(seed, 1, ends, 0), 1);
            if (ends > 0) {
                due("SEED " + seed + ", at 1 less", scene.made().chance(seed, 1, ends - 1, 0), 0);
            }
        }
        due("all END by 0 where nobody is", new DanceStillOwed().chance(5, 10, 0, 0), 1);
        says(19, "k 61: all of them");
        due("above", CROWDED.made().chance(MOST, 10, 61, 0), 1);
        due("below", CROWDED.made().chance(MOST, 10, 61, 1), 1);
    }

    private static void chanceLowest() {
        says(19, "part 0 above, 1 below the line, in lowest terms");
        Scene scene = () -> many(3, DANCER);
        for (int seed = 0; seed < 40; seed++) {
            for (int k = 0; k < 7; k++) {
                int soon = soon(scene, seed * 1000, 10, k);
                int both = soon == 0 ? 10 : soon % 10 == 0 ? 10 : soon % 5 == 0 ? 5 : soon % 2 == 0 ? 2 : 1;
                due(soon + " above 10", scene.made().chance(seed * 1000, 10, k, 0), soon / both);
                due(soon + " below 10", scene.made().chance(seed * 1000, 10, k, 1), 10 / both);
            }
        }
        DanceStillOwed none = rule(many(2, OFFICER), "pays 0;wills 1;breath 9;");
        due("all", none.chance(1, 7, 0, 0), 1);
        due("below all", none.chance(1, 7, 0, 1), 1);
    }

    private static void chanceWraps() {
        says(19, "SEED and each 1 more (an int)");
        for (int n = 2; n <= 3; n++) {
            int dancers = n;
            Scene scene = () -> many(dancers, DANCER);
            for (int seed : new int[] {MOST, MOST - 4, MOST - 9, LEAST, -5}) {
                for (int k = 0; k < 8; k++) {
                    DanceStillOwed x = scene.made();
                    due(n + " from " + seed + ", k " + k, x.chance(seed, 10, k, 0) * 10,
                        soon(scene, seed, 10, k) * x.chance(seed, 10, k, 1));
                }
            }
        }
    }

    private static void imageAndBack() {
        says(20, "AN IMAGE is kept: how many DANCERS");
        for (int n = 0; n <= 5; n++) {
            DanceStillOwed x = many(n, DANCER);
            due("of " + n, x.image(), n);
            due("back to " + n, x.back(), n);
            due("so many are there", x.count(0), n);
        }
        DanceStillOwed y = BUSY.made();
        y.image();
        same("what is there", y, BUSY.made());
        says(21, "STATE: there is none");
        refused("on a new object", STATE, DanceStillOwed::back, BARE, TAPED, WRITTEN);
        DanceStillOwed z = many(2, DANCER);
        due("none yet", z.back(), STATE);
        z.image();
        due("now there is", z.back(), 2);
        due("and still", z.back(), 2);
    }

    private static void imageOfFew() {
        says(21, "DANCERS that came since go, DEBTS to them are 0");
        DanceStillOwed x = new DanceStillOwed();
        x.image();
        for (int k = 0; k < 5; k++) {
            x.dancer(k, 9);
            x.set(3, k, 99);
        }
        owing(x, 1, 99, 12, 99, 23, 99, 34, 99, 40, 99);
        due("to an empty room", x.back(), 0);
        due("nobody is there", x.told(0, 5), BAD);
        due("nobody OWES any", x.count(1), 0);
        for (int k = 0; k < 5; k++) {
            due("another comes", x.dancer(5 - k, 1), k);
            due("of its own KIND", x.told(k, 5), 5 - k);
            due("of its own NUMBER", x.told(k, 2), 1);
            due("DONE 0", x.told(k, 3), 0);
        }
        due("no DEBTS", x.count(1), 0);
        due("the room is full again", x.dancer(0, 0), FULL);
        DanceStillOwed y = owing(many(3, DANCER), 1, 7);
        y.image();
        y.dancer(OFFICER, 9);
        owing(y, 3, 9, 30, 8, 31, 7, 13, 6);
        due("back to three", y.back(), 3);
        due("what all OWE", y.count(1), 7);
        due("what the first OWES", y.told(0, 7), 7);
        due("OWED to the second", y.told(1, 8), 7);
        due("the fourth is gone", y.told(3, 2), BAD);
        due("DEBTS to the fourth are none", y.told(3, 4), BAD);
    }

    private static void imageOfAll() {
        says(21, "AN IMAGE keeps ROUND, NIGHT, NUMBERS, DONE, DEBTS, THE RULE, at their bounds");
        DanceStillOwed x = many(5, DANCER);
        for (int k = 0; k < 2; k++) {
            lay(x, k == 0, 999, 999, 9, 99, 99);
            x.image();
            lay(x, k != 0, 0, 0, 0, 0, 0);
            due("back", x.back(), 5);
            due("ROUND", x.told(0, 0), 999);
            due("NIGHT", x.told(0, 1), 999);
            for (int one = 0; one < 5; one++) {
                due("NUMBER", x.told(one, 2), 9);
                due("DONE", x.told(one, 3), 99);
                due("DEBTS", x.told(one, 7), 396);
            }
            due("THE RULE", x.count(5), k == 0 ? 0 : 1);
        }
        says(21, "as in THE IMAGE: the last that is kept");
        DanceStillOwed y = many(2, DANCER);
        y.set(0, 0, 5);
        y.image();
        y.set(0, 0, 6);
        y.image();
        y.set(0, 0, 7);
        y.back();
        due("ROUND", y.told(0, 0), 6);
        y.set(0, 0, 8);
        y.back();
        due("ROUND again", y.told(0, 0), 6);
        says(21, "All that it keeps, and nothing else");
        DanceStillOwed z = many(2, DANCER);
        z.image();
        text(z, "pays 1;wills 1;breath 1;");
        z.feed('p');
        z.sheet(3, 1, 4);
        z.back();
        due("TEXTS stay", z.count(3), 2);
        due("THE TAPE stays", z.count(4), 1);
        due("SHEETS stay", z.cell(3, 3, 1), 1);
    }

    /** All that AN IMAGE keeps, alike for all; the first or the second TEXT is THE RULE. */
    private static void lay(DanceStillOwed x, boolean first, int round, int night, int number, int done, int debt) {
        x.set(0, 0, round);
        x.set(1, 0, night);
        for (int one = 0; one < 5; one++) {
            x.set(2, one, number);
            x.set(3, one, done);
            for (int to = 0; to < 5; to++) {
                x.set(4, 10 * one + to, debt);
            }
        }
        if (x.count(3) == 1) {
            text(x, "pays1;wills1;breath1;");
        }
        x.force(first ? 0 : 1);
    }

    private static void countWhat() {
        says(22, "what 0 .. 5; BAD");
        for (int what = 0; what < 6; what++) {
            answered("what " + what, BUSY.made().count(what));
        }
        for (int what : beside(0, 5)) {
            refused("what " + what, BAD, x -> x.count(what));
        }
    }

    private static void countBounds() {
        says(22, "How many, where there are none, and where there are as many as can be");
        int[] none = {0, 0, 0, 1, 0, 0};
        for (int what = 0; what < 6; what++) {
            due("what " + what + ", none", new DanceStillOwed().count(what), none[what]);
        }
        DanceStillOwed x = many(5, DANCER);
        for (int of = 0; of < 45; of++) {
            x.set(4, of, 99);
        }
        x.set(0, 0, 999);
        due("DANCERS", x.count(0), 5);
        due("what all OWE", x.count(1), 1980);
        due("ROUND", x.count(2), 999);
        DanceStillOwed y = WRITTEN.made();
        y.force(5);
        due("TEXTS", y.count(3), 6);
        due("bytes of THE TAPE", y.count(4), 160);
        due("THE RULE", y.count(5), 5);
    }
}
