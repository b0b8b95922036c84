/** The edges of promises 23 to 27: SHEETS, their items, what is copied, DANCERS by a SHEET, and what one is taken for. */
public final class EdgesHost extends Edges {
    public static void main(String[] args) {
        sheetBounds();
        sheetBad();
        sheetMissing();
        sheetBelow();
        sheetAnew();
        cellBounds();
        cellMissing();
        cellBits();
        copyBad();
        copyMissing();
        copyUnlike();
        copyOutside();
        copyBounds();
        copyAsTheyWere();
        roomBad();
        roomUnlike();
        roomOutside();
        roomCame();
        roomLeftOut();
        takenBad();
        takenKinds();
        end("EdgesHost");
    }

    private static void sheetBounds() {
        says(23, "SHEETS 0 .. 3; of sort 0 bytes, 1 shorts, 2 ints; a row of n (0 .. 40)");
        for (int sheet = 0; sheet < 4; sheet++) {
            for (int sort = 0; sort < 3; sort++) {
                for (int n : new int[] {0, 1, 39, 40}) {
                    DanceStillOwed x = new DanceStillOwed();
                    due("a row of " + n, x.sheet(sheet, sort, n), 1);
                    due("behind its last", x.cell(sheet, n, 1), OUTSIDE);
                    due("its last", x.cell(sheet, n - 1, 1), n == 0 ? OUTSIDE : 1);
                    due("its sort", x.room(sheet, sort, 0, 0), 0);
                    due("no other sort", x.room(sheet, (sort + 1) % 3, 0, 0), UNLIKE);
                    due("no other SHEET", x.cell(3 - sheet, 0, 1), NOTHING);
                }
            }
        }
    }

    private static void sheetBad() {
        says(23, "BAD: no such SHEET");
        for (int sheet : beside(0, 3)) {
            refused("SHEET " + sheet, BAD, x -> x.sheet(sheet, 0, 1));
            refused("SHEET " + sheet + " is missing", BAD, x -> x.sheet(sheet, -1, 1));
        }
        says(23, "BAD: sort");
        for (int sort : beside(-1, 2)) {
            refused("sort " + sort, BAD, x -> x.sheet(0, sort, 1));
        }
        says(23, "BAD: n above 40");
        for (int n : new int[] {41, 42, 160, MOST}) {
            for (int sort = 0; sort < 3; sort++) {
                int asked = sort;
                refused("n " + n, BAD, x -> x.sheet(1, asked, n));
            }
        }
    }

    private static void sheetMissing() {
        says(23, "or missing (sort -1: n does not matter): 1");
        for (int n : new int[] {0, 1, 40, 41, -1, LEAST, MOST}) {
            DanceStillOwed x = BUSY.made();
            due("n " + n, x.sheet(1, -1, n), 1);
            due("it is missing", x.cell(1, 0, 1), NOTHING);
            due("others are not", x.cell(2, 5, 5), 1);
            due("what is missing already", x.sheet(3, -1, n), 1);
            due("it is still", x.cell(3, 0, 1), NOTHING);
        }
    }

    private static void sheetBelow() {
        says(23, "-14 a size below 0");
        for (int n : new int[] {-1, -2, -41, LEAST, LEAST + 1}) {
            for (int sort = 0; sort < 3; sort++) {
                int asked = sort;
                refused("n " + n, BELOW, x -> x.sheet(1, asked, n));
            }
        }
        says(23, "BAD; -14: the first that the words name");
        refused("no such SHEET", BAD, x -> x.sheet(4, 0, -1));
        refused("no such SHEET", BAD, x -> x.sheet(-1, 0, -1));
        refused("sort 3", BAD, x -> x.sheet(0, 3, -1));
        refused("sort -2", BAD, x -> x.sheet(0, -2, -1));
    }

    private static void sheetAnew() {
        says(23, "A SHEET becomes a row of n of a sort, all 0");
        for (int n = 0; n <= 30; n++) {
            for (int sort = 0; sort < 3; sort++) {
                DanceStillOwed x = room(BAND, 0, DANCER, 0);
                row(x, 0, 2, 9, 9, 9, 9, 9, 9);
                x.sheet(0, sort, n);
                due("all of " + n + " are 0", x.tells(0, 0, 1, 0), NONE);
            }
        }
        DanceStillOwed y = room(BAND, 0, DANCER, 0);
        y.sheet(0, 2, 40);
        for (int k = 0; k < 40; k++) {
            y.cell(0, k, -1);
        }
        y.sheet(0, 0, 40);
        y.sheet(1, 0, 20);
        for (int from = 0; from < 40; from += 20) {
            due("20 from " + from, y.copy(0, from, 1, 0, 20), 20);
            due("are 0", y.tells(1, 0, 1, 0), NONE);
        }
    }

    private static void cellBounds() {
        says(24, "BAD: no such SHEET");
        for (int sheet : beside(0, 3)) {
            refused("SHEET " + sheet, BAD, x -> x.cell(sheet, 0, 1));
        }
        says(24, "-12: no such item");
        for (int i : beside(0, 5)) {
            for (int sheet = 0; sheet < 3; sheet++) {
                int asked = sheet;
                refused("item " + i, OUTSIDE, x -> x.cell(asked, i, 1), BUSY);
            }
        }
        refused("item 0 of none", OUTSIDE, x -> x.cell(0, 0, 1), () -> {
            DanceStillOwed x = new DanceStillOwed();
            x.sheet(0, 0, 0);
            return x;
        });
        says(24, "Item i of a SHEET becomes v: 1");
        DanceStillOwed y = many(2, WALLFLOWER);
        for (int sheet = 0; sheet < 3; sheet++) {
            y.sheet(sheet, sheet, 30);
            for (int i = 0; i < 30; i++) {
                due("item " + i, y.cell(sheet, i, i), 1);
            }
            due("all of them", y.tells(sheet, 0, 1, 0), NONE);
        }
    }

    private static void cellMissing() {
        says(24, "-11: the SHEET is missing");
        refused("item 0", NOTHING, x -> x.cell(3, 0, 1), BUSY, BARE);
        says(24, "BAD; -11; -12: the first that the words name");
        for (int i : beside(0, 39)) {
            refused("missing, item " + i, NOTHING, x -> x.cell(3, i, 1), BUSY, BARE);
            refused("no such SHEET, item " + i, BAD, x -> x.cell(4, i, 1));
            refused("no such SHEET, item " + i, BAD, x -> x.cell(-1, i, 1));
        }
    }

    /** Whether a number put into a row of a sort is taken for 17. */
    private static int is17(int sort, int v) {
        DanceStillOwed x = many(2, WALLFLOWER);
        count(x, 0, sort, 18);
        x.cell(0, 17, v);
        return x.tells(0, 0, 1, 0) == NONE ? 1 : 0;
    }

    private static void cellBits() {
        says(24, "v (of bytes, shorts its lowest 8, 16 bits)");
        int[] byBytes = {17, 256 + 17, 17 - 256, 65536 + 17, 17 - 65536, (1 << 24) + 17, LEAST + 17, 0x7FFFFF11, 512 + 17};
        int[] byShorts = {17, 65536 + 17, 17 - 65536, (1 << 24) + 17, LEAST + 17, 0x7FFF0011, 131072 + 17};
        int[] byInts = {17};
        int[][] so = {byBytes, byShorts, byInts};
        for (int sort = 0; sort < 3; sort++) {
            for (int v : byBytes) {
                boolean is = false;
                for (int like : so[sort]) {
                    is = is || like == v;
                }
                due("sort " + sort + ", v " + v, is17(sort, v), is ? 1 : 0);
            }
            for (int v : so[sort]) {
                due("sort " + sort + ", v " + v, is17(sort, v), 1);
            }
            for (int v : new int[] {16, 18, -17, 17 + 128, 17 - 128, 17 + 32768, LEAST, MOST}) {
                due("sort " + sort + ", v " + v, is17(sort, v), sort < 1 && v == 17 + 32768 ? 1 : 0);
            }
        }
    }

    private static void copyBad() {
        says(25, "BAD: no such SHEET");
        for (int sheet : beside(0, 3)) {
            refused("from " + sheet, BAD, x -> x.copy(sheet, 0, 0, 0, 0));
            refused("to " + sheet, BAD, x -> x.copy(0, 0, sheet, 0, 0));
            refused("both " + sheet, BAD, x -> x.copy(sheet, 0, sheet, 0, 0));
        }
        says(25, "BAD; -11: the first that the words name");
        refused("from none such to a missing one", BAD, x -> x.copy(4, 0, 3, 0, 0), BUSY, BARE);
        refused("from a missing one to none such", BAD, x -> x.copy(3, 0, 4, 0, 0), BUSY, BARE);
        refused("from a missing one to none such, outside", BAD, x -> x.copy(3, -1, -1, 99, -1), BUSY, BARE);
    }

    private static void copyMissing() {
        says(25, "-11: either SHEET is missing");
        refused("from", NOTHING, x -> x.copy(3, 0, 0, 0, 1), BUSY);
        refused("to", NOTHING, x -> x.copy(0, 0, 3, 0, 1), BUSY);
        refused("both", NOTHING, x -> x.copy(3, 0, 3, 0, 1), BUSY, BARE);
        refused("from, none", NOTHING, x -> x.copy(3, 0, 0, 0, 0), BUSY);
        refused("to, none", NOTHING, x -> x.copy(0, 0, 3, 0, 0), BUSY);
        says(25, "-11; -13; -12: the first that the words name");
        for (int sheet = 0; sheet < 3; sheet++) {
            int asked = sheet;
            refused("missing, outside", NOTHING, x -> x.copy(3, -1, asked, 0, 1), BUSY);
            refused("to a missing one, outside", NOTHING, x -> x.copy(asked, 6, 3, 0, 1), BUSY);
            refused("missing, n below 0", NOTHING, x -> x.copy(3, 0, asked, 0, -1), BUSY);
        }
    }

    private static void copyUnlike() {
        says(25, "-13: they are of unlike sorts");
        for (int from = 0; from < 3; from++) {
            for (int to = 0; to < 3; to++) {
                int sheet = from;
                int other = to;
                if (from != to) {
                    refused("1", UNLIKE, x -> x.copy(sheet, 0, other, 0, 1), BUSY);
                    refused("none", UNLIKE, x -> x.copy(sheet, 0, other, 0, 0), BUSY);
                } else {
                    due("of like sorts", BUSY.made().copy(sheet, 0, other, 0, 1), 1);
                }
            }
        }
        says(25, "-13; -12: the first that the words name");
        refused("item 6", UNLIKE, x -> x.copy(0, 6, 1, 0, 1), BUSY);
        refused("to item 6", UNLIKE, x -> x.copy(0, 0, 1, 6, 1), BUSY);
        refused("item -1", UNLIKE, x -> x.copy(0, -1, 1, 0, 1), BUSY);
        refused("n -1", UNLIKE, x -> x.copy(0, 0, 1, 0, -1), BUSY);
        refused("n 7", UNLIKE, x -> x.copy(0, 0, 1, 0, 7), BUSY);
    }

    /** SHEETS 0 and 1 of one sort, of 6 and of 4, the others beside them. */
    private static Scene two(int sort) {
        return () -> {
            DanceStillOwed x = many(2, WALLFLOWER);
            count(x, 0, sort, 6);
            count(x, 1, sort, 4);
            return x;
        };
    }

    private static void copyOutside() {
        says(25, "-12 (also with n below 0)");
        int[][] outside = {
            {-1, 0, 1}, {0, -1, 1}, {-1, 0, 0}, {0, -1, 0}, {7, 0, 0}, {0, 5, 0}, {6, 0, 1}, {0, 4, 1}, {5, 0, 2},
            {0, 3, 2}, {0, 0, 5}, {3, 0, 4}, {0, 0, 7}, {0, 0, -1}, {3, 2, -1}, {0, 0, LEAST}, {6, 4, -1}, {1, 1, LEAST},
            {0, 0, MOST}, {1, 1, MOST}, {6, 4, MOST}, {MOST, 0, 1}, {0, MOST, 1}, {MOST, MOST, MOST}, {MOST, 0, 0},
            {LEAST, 0, 1}, {0, LEAST, 1}, {LEAST, 0, LEAST}, {0, LEAST, LEAST}, {LEAST, LEAST, 0}, {MOST - 1, 0, 2},
            {0, MOST - 1, 2}, {1, 0, -2}, {2, 2, -1}, {7, 0, -1}};
        for (int[] o : outside) {
            for (int sort = 0; sort < 3; sort++) {
                refused("item " + o[0] + " to " + o[1] + ", n " + o[2], OUTSIDE, x -> x.copy(0, o[0], 1, o[1], o[2]), two(sort));
            }
        }
    }

    private static void copyBounds() {
        says(25, "n numbers of a SHEET, from item i on, come to another one's item j on: n");
        for (int sort = 0; sort < 3; sort++) {
            for (int i = 0; i <= 6; i++) {
                for (int j = 0; j <= 4; j++) {
                    for (int n = 0; n <= 7; n++) {
                        DanceStillOwed x = two(sort).made();
                        boolean fits = i + n <= 6 && j + n <= 4;
                        due("item " + i + " to " + j + ", n " + n, x.copy(0, i, 1, j, n), fits ? n : OUTSIDE);
                        due("what came", x.tells(1, 0, 1, 0), fits && n > 0 && i != j ? j : NONE);
                        due("what stays", x.tells(0, 0, 1, 0), NONE);
                    }
                }
            }
        }
        says(25, "of rows of none, and of the longest");
        DanceStillOwed y = new DanceStillOwed();
        y.sheet(0, 0, 0);
        y.sheet(1, 0, 40);
        y.sheet(2, 0, 40);
        due("none of none", y.copy(0, 0, 1, 40, 0), 0);
        due("1 of none", y.copy(0, 0, 1, 0, 1), OUTSIDE);
        due("40", y.copy(1, 0, 2, 0, 40), 40);
        due("41", y.copy(1, 0, 2, 0, 41), OUTSIDE);
        due("the last", y.copy(1, 39, 2, 39, 1), 1);
        due("behind the last", y.copy(1, 40, 2, 39, 1), OUTSIDE);
    }

    private static void copyAsTheyWere() {
        says(25, "(as they were): also onto itself");
        for (int i = 0; i < 6; i++) {
            for (int j = 0; j < 6; j++) {
                int n = 6 - Math.max(i, j);
                DanceStillOwed x = many(2, WALLFLOWER);
                count(x, 0, 2, 6);
                due("item " + i + " to " + j, x.copy(0, i, 0, j, n), n);
                count(x, 1, 2, 6);
                for (int k = 0; k < 6; k++) {
                    int is = k >= j && k < j + n ? k - j + i : k;
                    x.copy(0, k, 1, 0, 1);
                    due("item " + k + " is " + is, x.copy(1, 0, 1, is, 1), 1);
                    x.cell(1, 0, 0);
                    due("item " + k + " is " + is, x.tells(1, 0, 1, 0), NONE);
                }
            }
        }
        says(25, "numbers come as they are, be they below 0");
        DanceStillOwed y = new DanceStillOwed();
        row(y, 0, 0, -128 + 256, 3);
        row(y, 1, 0, 0, 3);
        y.copy(0, 0, 1, 0, 1);
        due("no KIND", y.room(1, 0, 0, 1), 0);
    }

    private static void roomBad() {
        says(26, "BAD: no such SHEET");
        for (int sheet : beside(0, 3)) {
            refused("SHEET " + sheet, BAD, x -> x.room(sheet, 0, 0, 1));
        }
        says(26, "BAD: sort");
        for (int sort : beside(0, 2)) {
            refused("sort " + sort, BAD, x -> x.room(0, sort, 0, 1));
        }
        says(26, "n of them (0 .. 5); BAD");
        for (int n : beside(0, 5)) {
            refused("n " + n, BAD, x -> x.room(0, 0, 0, n));
        }
        says(26, "BAD; -13; -11; -12: the first that the words name");
        refused("n 6 of another sort", BAD, x -> x.room(0, 1, 0, 6), BUSY);
        refused("n -1 of another sort", BAD, x -> x.room(0, 1, 0, -1), BUSY);
        refused("n 6 of a missing one", BAD, x -> x.room(3, 0, 0, 6), BUSY, BARE);
        refused("n 6 from outside", BAD, x -> x.room(0, 0, 6, 6), BUSY);
        refused("sort 3 of a missing one", BAD, x -> x.room(3, 3, 0, 1), BUSY, BARE);
        refused("none such, of another sort, from outside", BAD, x -> x.room(4, 1, -1, 1));
    }

    private static void roomUnlike() {
        says(26, "-13 a thing of another sort");
        for (int sheet = 0; sheet < 3; sheet++) {
            for (int sort = 0; sort < 3; sort++) {
                int row = sheet;
                int asked = sort;
                if (sheet != sort) {
                    refused("one", UNLIKE, x -> x.room(row, asked, 0, 1), BUSY);
                    refused("none", UNLIKE, x -> x.room(row, asked, 0, 0), BUSY);
                    refused("from outside: -13 is named first", UNLIKE, x -> x.room(row, asked, 6, 1), BUSY);
                    refused("from -1: -13 is named first", UNLIKE, x -> x.room(row, asked, -1, 5), BUSY);
                } else {
                    due("of its sort", BUSY.made().room(sheet, sort, 2, 1), 1);
                }
            }
        }
        says(26, "-11: it is missing, whatever it is taken for");
        for (int sort = 0; sort < 3; sort++) {
            int asked = sort;
            refused("one", NOTHING, x -> x.room(3, asked, 0, 1), BUSY, BARE);
            refused("none", NOTHING, x -> x.room(3, asked, 0, 0), BUSY, BARE);
            refused("from outside: -11 is named first", NOTHING, x -> x.room(3, asked, -1, 1), BUSY, BARE);
        }
    }

    private static void roomOutside() {
        says(26, "-12, where nothing stood ahead");
        for (int from : new int[] {-1, -2, 5, 6, 7, LEAST, LEAST + 1, MOST, MOST - 1, MOST - 8, -9}) {
            for (int n = 1; n <= 5; n++) {
                int asked = n;
                refused("from " + from + ", " + n, OUTSIDE, x -> x.room(2, 2, from, asked), BUSY);
            }
        }
        says(26, "-12: what stood ahead came");
        for (int cells = 0; cells <= 11; cells++) {
            for (int from = 0; from <= cells + 1; from++) {
                for (int n = 0; n <= 5; n++) {
                    DanceStillOwed x = new DanceStillOwed();
                    x.sheet(0, 1, cells);
                    int there = Math.max(0, (cells - from) / 2);
                    due(n + " of " + cells + " from " + from, x.room(0, 1, from, n), n <= there ? n : OUTSIDE);
                    due("came", x.count(0), Math.min(n, there));
                }
            }
        }
    }

    private static void roomCame() {
        says(26, "from one on, two by two (as of dancer()), n of them (0 .. 5): how many came");
        for (int sort = 0; sort < 3; sort++) {
            DanceStillOwed x = new DanceStillOwed();
            row(x, 0, sort, 9, 1, 2, 3, 4, 5, 6, 0, 9, 4, 0);
            due("five", x.room(0, sort, 1, 5), 5);
            int[] kinds = {1, 3, 5, 0, 4};
            int[] numbers = {2, 4, 6, 9, 0};
            for (int k = 0; k < 5; k++) {
                due("KIND of " + k, x.told(k, 5), kinds[k]);
                due("NUMBER of " + k, x.told(k, 2), numbers[k]);
            }
        }
        due("none", BUSY.made().room(0, 0, 0, 0), 0);
        says(26, "a row as long as can be");
        DanceStillOwed y = new DanceStillOwed();
        y.sheet(3, 2, 40);
        due("the last", y.room(3, 2, 38, 1), 1);
        due("half of one", y.room(3, 2, 39, 1), OUTSIDE);
        due("came", y.count(0), 1);
    }

    private static void roomLeftOut() {
        says(26, "others are left out: KIND 0 .. 5, NUMBER 0 .. 9");
        int[][] pairs = {{0, 0}, {5, 9}, {6, 0}, {-1, 0}, {0, 10}, {0, -1}, {6, 10}, {3, 3}};
        for (int[] p : pairs) {
            DanceStillOwed x = new DanceStillOwed();
            row(x, 0, 2, p);
            due("KIND " + p[0] + ", NUMBER " + p[1], x.room(0, 2, 0, 1), p[0] < 0 || p[0] > 5 || p[1] < 0 || p[1] > 9 ? 0 : 1);
        }
        DanceStillOwed y = new DanceStillOwed();
        row(y, 0, 0, 6, 0, 1, 1, 0, 10, 2, 2, -1, 0);
        due("two of five", y.room(0, 0, 0, 5), 2);
        due("the first of them", y.told(0, 5), 1);
        due("the second of them", y.told(1, 5), 2);
        says(26, "others are left out: the room is full");
        DanceStillOwed z = many(3, BAND);
        z.sheet(0, 0, 10);
        due("two of five", z.room(0, 0, 0, 5), 2);
        due("none of five", z.room(0, 0, 0, 5), 0);
        due("-12 in a full room too", z.room(0, 0, 2, 5), OUTSIDE);
        due("five are there", z.count(0), 5);
    }

    private static void takenBad() {
        says(27, "BAD: k");
        for (int k : beside(0, 5)) {
            refused("k " + k, BAD, x -> x.taken(0, k));
        }
        says(27, "-11: none such");
        for (int one : beside(0, 2)) {
            refused("of " + one, NOTHING, x -> x.taken(one, 0), BARE, BUSY, WRITTEN);
        }
        refused("of 0 where nobody is", NOTHING, x -> x.taken(0, 0), BARE);
        refused("of 5 beside five", NOTHING, x -> x.taken(5, 5), CROWDED);
        due("of the last", CROWDED.made().taken(4, MOTHER), 5);
        says(27, "BAD; -11: the first that the words name");
        refused("k 6 of none such", BAD, x -> x.taken(9, 6));
        refused("k -1 of none such", BAD, x -> x.taken(-1, -1));
    }

    private static void takenKinds() {
        says(27, "one of KIND k, or one under that one (also by others between): the NUMBER; -13");
        String[] under = {"0", "10", "20", "310", "420", "50"};
        for (int kind = 0; kind < 6; kind++) {
            for (int k = 0; k < 6; k++) {
                int number = under[kind].indexOf('0' + k) >= 0 ? 9 - kind : UNLIKE;
                int one = kind;
                int asked = k;
                due("KIND " + kind + " for " + k, room(kind, 9 - kind).taken(0, k), number);
                if (number == UNLIKE) {
                    refused("KIND " + kind + " for " + k, UNLIKE, x -> x.taken(0, asked), () -> room(one, 9));
                }
            }
        }
        due("NUMBER 0", room(LAMB, 0).taken(0, DANCER), 0);
        due("NUMBER 9", room(LAMB, 9).taken(0, OFFICER), 9);
    }
}
