/** The edges of promises 1 to 5: who is there, what is set and told of them, what they PAY, WILL and MAY. */
public final class EdgesDancers extends Edges {
    public static void main(String[] args) {
        emptyRoom();
        lastCall();
        setRoundAndNight();
        setNumberAndDone();
        setDebt();
        setWhat();
        dancerBounds();
        dancerFull();
        toldWhat();
        toldOf();
        toldSums();
        breathBounds();
        breathHeld();
        asksBad();
        paysBounds();
        paysHeld();
        paysByLamb();
        willByText();
        willByDebt();
        willByDone();
        mayByDebt();
        mayByWill();
        mayByBreath();
        end("EdgesDancers");
    }

    private static void emptyRoom() {
        says(1, "An empty room");
        DanceStillOwed x = new DanceStillOwed();
        due("DANCERS", x.count(0), 0);
        due("what all OWE", x.count(1), 0);
        due("THE TAPE", x.count(4), 0);
        due("of the first", x.told(0, 5), BAD);
        due("who comes first", x.dancer(DANCER, 0), 0);
        says(1, "ROUND (0 at first), NIGHT (0)");
        due("ROUND", new DanceStillOwed().told(0, 0), 0);
        due("ROUND, counted", new DanceStillOwed().count(2), 0);
        due("NIGHT", new DanceStillOwed().told(0, 1), 0);
        says(1, "TEXT 0, at first THE RULE, is: pays 1 ; wills 1 ; breath 4");
        DanceStillOwed y = owing(room(DANCER, 0, DANCER, 0), 1, 9);
        due("TEXTS", y.count(3), 1);
        due("THE RULE", y.count(5), 0);
        due("pays", y.asks(0, 1, 0), 1);
        due("wills", y.asks(0, 1, 1), 1);
        due("breath", y.told(0, 6), 4);
        says(1, "SHEETS are missing (as all are at first)");
        for (int sheet = 0; sheet < 4; sheet++) {
            due("SHEET " + sheet, new DanceStillOwed().cell(sheet, 0, 0), NOTHING);
        }
        says(1, "STATE: there is no IMAGE at first");
        refused("back", STATE, DanceStillOwed::back, BARE);
        says(1, "NONE, BAD, STATE, FULL, NO");
        due("NONE", DanceStillOwed.NONE, -1);
        due("BAD", DanceStillOwed.BAD, -2);
        due("STATE", DanceStillOwed.STATE, -3);
        due("FULL", DanceStillOwed.FULL, -4);
        due("NO", DanceStillOwed.NO, -4611686018427387904L);
    }

    private static void lastCall() {
        says(1, "An object is used for at most 512 calls after it has been made");
        DanceStillOwed x = new DanceStillOwed();
        for (int k = 1; k < 512; k++) {
            due("call " + k, k % 8 == 0 ? x.text() : x.feed('x'), k % 8 == 0 ? -100 : k % 8);
        }
        due("call 512", x.count(4), 7);
    }

    private static void setRoundAndNight() {
        for (int what = 0; what < 2; what++) {
            int asked = what;
            String name = what == 0 ? "ROUND" : "NIGHT";
            says(2, name + " (0 .. 999) becomes v: what it was; BAD");
            DanceStillOwed x = new DanceStillOwed();
            due("to the last", x.set(what, 0, 999), 0);
            due("it is", x.told(0, what), 999);
            due("to the first", x.set(what, 0, 0), 999);
            due("it is", x.told(0, what), 0);
            due("the other is as it was", x.told(0, 1 - what), 0);
            for (int v : beside(0, 999)) {
                refused(name + " to " + v, BAD, y -> y.set(asked, 0, v));
            }
            says(2, "of " + name + " of does not matter");
            for (int of : beside(0, 4)) {
                due("of " + of + " where nobody is", BARE.made().set(what, of, 5), 0);
                due("of " + of + " where some are", BUSY.made().set(what, of, 5), what == 0 ? 8 : 4);
            }
        }
    }

    private static void setNumberAndDone() {
        int[] most = {9, 99};
        for (int what = 2; what < 4; what++) {
            int asked = what;
            int last = most[what - 2];
            String name = what == 2 ? "NUMBER (0 .. 9)" : "DONE (0 .. 99)";
            says(2, name + " becomes v: what it was; BAD");
            DanceStillOwed x = room(DANCER, 0, OFFICER, 0, LAMB, 0, BAND, 0, MOTHER, 0);
            for (int of = 0; of < 5; of++) {
                due("to the last", x.set(what, of, last), 0);
                due("it is", x.told(of, what), last);
                due("to the first", x.set(what, of, 0), last);
                due("it is", x.told(of, what), 0);
            }
            for (int v : beside(0, last)) {
                refused(name + " to " + v, BAD, y -> y.set(asked, 0, v));
            }
            says(2, name + " of one of DANCERS; BAD");
            for (int of : beside(0, 2)) {
                refused("of " + of, BAD, y -> y.set(asked, of, 1), BARE, BUSY, WRITTEN);
            }
            for (int of : beside(0, 4)) {
                refused("of " + of + " beside five", BAD, y -> y.set(asked, of, 1), CROWDED);
            }
            refused("of the first where nobody is", BAD, y -> y.set(asked, 0, 1), BARE);
        }
    }

    private static void setDebt() {
        says(2, "DEBT (0 .. 99) becomes v: what it was; BAD");
        DanceStillOwed x = many(5, DANCER);
        due("to the last", x.set(4, 1, 99), 0);
        due("it is", debt(x, 1), 99);
        due("to the first", x.set(4, 1, 0), 99);
        due("it is", debt(x, 1), 0);
        for (int v : beside(0, 99)) {
            refused("DEBT to " + v, BAD, y -> y.set(4, 1, v));
        }
        says(2, "of: 10 times who OWES, and to whom; BAD");
        for (int of = -60; of < 120; of++) {
            int asked = of;
            int one = of / 10;
            int to = of % 10;
            boolean two = of >= 0 && one < 5 && to < 5 && one != to;
            if (two) {
                due("of " + of, x.set(4, of, 7), 0);
                due("of " + of + ", who OWES", x.told(one, 7), 7);
                due("of " + of + ", to whom", x.told(to, 8), 7);
                due("of " + of + " again", x.set(4, of, 0), 7);
            } else {
                refused("of " + of, BAD, y -> y.set(4, asked, 0), CROWDED);
            }
        }
        for (int of : new int[] {3, 30, 23, 32, 33, 0, 11, 22, LEAST, LEAST + 1, MOST, 1000000001, -2147483638}) {
            refused("of " + of + " beside three", BAD, y -> y.set(4, of, 1), BUSY);
        }
        refused("of 1 where nobody is", BAD, y -> y.set(4, 1, 0), BARE);
    }

    private static void setWhat() {
        says(2, "what 0 .. 4; BAD");
        for (int what : beside(0, 4)) {
            refused("what " + what, BAD, x -> x.set(what, 1, 1));
        }
    }

    private static void dancerBounds() {
        says(3, "a KIND: 0 .. 5; BAD");
        for (int kind = 0; kind < 6; kind++) {
            DanceStillOwed x = room(kind, 0);
            due("KIND " + kind, x.told(0, 5), kind);
        }
        for (int kind : beside(0, 5)) {
            refused("KIND " + kind, BAD, x -> x.dancer(kind, 0));
        }
        says(3, "a NUMBER (0 .. 9); BAD");
        for (int number = 0; number < 10; number++) {
            due("NUMBER " + number, room(DANCER, number).told(0, 2), number);
        }
        for (int number : beside(0, 9)) {
            refused("NUMBER " + number, BAD, x -> x.dancer(DANCER, number));
        }
    }

    private static void dancerFull() {
        says(3, "DANCERS (5 at most, numbered from 0); FULL");
        DanceStillOwed x = new DanceStillOwed();
        for (int k = 0; k < 5; k++) {
            due("who comes", x.dancer(k, k), k);
        }
        due("the sixth", x.dancer(0, 0), FULL);
        refused("the sixth", FULL, y -> y.dancer(0, 0), CROWDED);
        says(3, "BAD; FULL: the first that the words name");
        refused("KIND 6 in a full room", BAD, y -> y.dancer(6, 0), CROWDED);
        refused("NUMBER 10 in a full room", BAD, y -> y.dancer(0, 10), CROWDED);
        refused("both in a full room", BAD, y -> y.dancer(-1, -1), CROWDED);
        says(3, "DONE, DEBT (0 as one comes)");
        DanceStillOwed z = BUSY.made();
        int one = z.dancer(LAMB, 9);
        due("DONE", z.told(one, 3), 0);
        due("what one OWES", z.told(one, 7), 0);
        due("OWED to one", z.told(one, 8), 0);
    }

    private static void toldWhat() {
        says(4, "What 0 .. 8; BAD");
        DanceStillOwed x = BUSY.made();
        int[] answers = {8, 4, 4, 2, 3, OFFICER, 8, 3, 7};
        for (int what = 0; what < 9; what++) {
            due("what " + what, x.told(what == 4 ? 12 : 1, what), answers[what]);
        }
        for (int what : beside(0, 8)) {
            refused("what " + what, BAD, y -> y.told(1, what));
        }
    }

    private static void toldOf() {
        says(4, "What 0, 1 as of set(): of does not matter");
        for (int of : beside(0, 2)) {
            due("ROUND of " + of, BUSY.made().told(of, 0), 8);
            due("NIGHT of " + of, BUSY.made().told(of, 1), 4);
            due("ROUND of " + of + " where nobody is", BARE.made().told(of, 0), 0);
        }
        says(4, "of one of DANCERS; BAD");
        for (int what : new int[] {2, 3, 5, 6, 7, 8}) {
            for (int of : beside(0, 2)) {
                refused("what " + what + " of " + of, BAD, y -> y.told(of, what), BARE, BUSY);
            }
            answered("what " + what + " of the last", BUSY.made().told(2, what));
            refused("what " + what + " of the fifth beside five", BAD, y -> y.told(5, what), CROWDED);
            refused("what " + what + " of the first where nobody is", BAD, y -> y.told(0, what), BARE);
        }
        says(4, "DEBT as of set(); BAD");
        for (int of : new int[] {0, 11, 22, 3, 30, 9, 90, -1, -10, -12, 100, 101, LEAST, MOST}) {
            refused("DEBT of " + of, BAD, y -> y.told(of, 4), BUSY);
        }
        due("the first DEBT", debt(many(2, DANCER), 1), 0);
        due("the last DEBT", debt(owing(many(5, DANCER), 43, 6), 43), 6);
    }

    private static void toldSums() {
        says(4, "what one OWES, together; OWED to one: what all others OWE that one, together");
        DanceStillOwed x = many(5, DANCER);
        due("OWES none", x.told(4, 7), 0);
        due("OWED none", x.told(4, 8), 0);
        owing(x, 40, 99, 41, 99, 42, 99, 43, 99);
        due("OWES most", x.told(4, 7), 396);
        due("still OWED none", x.told(4, 8), 0);
        due("OWED by one", x.told(0, 8), 99);
        owing(x, 10, 99, 20, 99, 30, 99);
        due("OWED most", x.told(0, 8), 396);
        due("still OWES none", x.told(0, 7), 0);
    }

    private static int breath(int kind, int number, String v) {
        return rule(room(kind, number), "pays 1;wills 1;breath " + v + ";").told(0, 6);
    }

    private static void breathBounds() {
        says(4, "BREATH 0 .. 99, else the bound: laid on what comes out");
        due("an OFFICER of 96", breath(OFFICER, 0, "95"), 98);
        due("an OFFICER of 96", breath(OFFICER, 0, "96"), 99);
        due("an OFFICER of 97", breath(OFFICER, 0, "97"), 99);
        due("an OFFICER of 99", breath(OFFICER, 0, "99"), 99);
        due("a LAMB of 96", breath(LAMB, 0, "96"), 99);
        due("a LAMB of 97", breath(LAMB, 0, "97"), 99);
        due("a WALLFLOWER", breath(WALLFLOWER, 0, "0"), 99);
        due("a BAND of 0", breath(BAND, 0, "50"), 0);
        due("a BAND of 9", breath(BAND, 9, "50"), 9);
        says(4, "MOTHER: half (cut) of a DANCER's");
        for (int v = 0; v < 6; v++) {
            due("of " + v, breath(MOTHER, 0, "" + v), v / 2);
        }
        due("of 99", breath(MOTHER, 0, "99"), 49);
        due("of 98", breath(MOTHER, 0, "98"), 49);
        due("of 97", breath(MOTHER, 0, "97"), 48);
    }

    private static void breathHeld() {
        says(4, "breath (0 .. 99, else the bound), v being held so");
        due("0", breath(DANCER, 0, "0"), 0);
        due("-1", breath(DANCER, 0, "-1"), 0);
        due("99", breath(DANCER, 0, "99"), 99);
        due("100", breath(DANCER, 0, "100"), 99);
        due("an int's most", breath(DANCER, 0, "256*256*256*128-1"), 99);
        due("an int's least", breath(DANCER, 0, "256*256*256*128"), 0);
        due("an OFFICER's v of -1", breath(OFFICER, 0, "-1"), 3);
        due("a LAMB's v of -9", breath(LAMB, 0, "-9"), 3);
        due("a MOTHER's v of -2", breath(MOTHER, 0, "-2"), 0);
        due("a MOTHER's v of 101", breath(MOTHER, 0, "101"), 49);
        due("an int's most and 3 more", breath(OFFICER, 0, "256*256*256*128-1"), 99);
        says(4, "debt: what one OWES that one (of breath 0)");
        int[] byFour = {4, 7, 2, 7, 99, 0};
        for (int kind = 0; kind < 6; kind++) {
            DanceStillOwed x = rule(owing(room(kind, 0, DANCER, 0), 1, 90, 10, 90), "pays 1;wills 1;breath 4+debt*9;");
            due("KIND " + kind + " by a DEBT of 90", x.told(0, 6), byFour[kind]);
            owing(x, 1, 0, 10, 0);
            due("KIND " + kind + " by none", x.told(0, 6), byFour[kind]);
        }
    }

    private static void asksBad() {
        says(5, "BAD: no such two, one and the same");
        for (int what = 0; what < 3; what++) {
            int asked = what;
            for (int[] two : noTwos(3)) {
                refused("of " + two[0] + " and " + two[1], BAD, x -> x.asks(two[0], two[1], asked), BUSY);
            }
            refused("where nobody is", BAD, x -> x.asks(0, 1, asked), BARE);
            answered("of the last two", CROWDED.made().asks(4, 3, what));
            refused("of 5 beside five", BAD, x -> x.asks(5, 0, asked), CROWDED);
            refused("of 5 beside five", BAD, x -> x.asks(0, 5, asked), CROWDED);
        }
        says(5, "BAD: what");
        for (int what : beside(0, 2)) {
            refused("what " + what, BAD, x -> x.asks(0, 1, what));
        }
    }

    /** What one of a KIND PAYS of a DEBT. */
    private static int pays(int kind, int number, int round, String v, int owing) {
        DanceStillOwed x = owing(room(kind, number, DANCER, 0), 1, owing);
        x.set(0, 0, round);
        return rule(x, "pays " + v + ";wills 1;breath 4;").asks(0, 1, 0);
    }

    private static void paysBounds() {
        says(5, "PAYS: 0 .. the DEBT, else the bound: laid on what comes out");
        int[] comesOut = {3, 6, 1, 13, 99, 0};
        for (int kind = 0; kind < 6; kind++) {
            int v = comesOut[kind];
            due("KIND " + kind + " of no DEBT", pays(kind, 7, 0, "3", 0), 0);
            for (int owing : new int[] {1, 2, 3, 5, 6, 7, 12, 13, 14, 98, 99}) {
                due("KIND " + kind + " of " + owing, pays(kind, 7, 0, "3", owing), Math.min(v, owing));
            }
        }
        says(5, "WALLFLOWER: all of it; BAND: 0");
        due("all of 99", pays(WALLFLOWER, 0, 0, "0", 99), 99);
        due("all of 1", pays(WALLFLOWER, 0, 0, "0", 1), 1);
        due("0 of 99", pays(BAND, 9, 0, "99", 99), 0);
    }

    private static void paysHeld() {
        says(5, "pays (0 .. 99, else the bound), v being held so");
        due("v 0", pays(DANCER, 0, 0, "0", 99), 0);
        due("v -1", pays(DANCER, 0, 0, "-1", 99), 0);
        due("v 98", pays(DANCER, 0, 0, "98", 99), 98);
        due("v 99", pays(DANCER, 0, 0, "99", 99), 99);
        due("v 100", pays(DANCER, 0, 0, "100", 99), 99);
        due("an int's least", pays(DANCER, 0, 0, "256*256*256*128", 99), 0);
        due("twice what is held below", pays(OFFICER, 0, 0, "-5", 99), 0);
        due("twice what wraps to 2 if it is not held", pays(OFFICER, 0, 0, "256*256*256*128+1", 99), 0);
        due("twice what wraps to -2 if it is not held", pays(OFFICER, 0, 0, "256*256*256*128-1", 99), 99);
        due("9 more than what is held below", pays(LAMB, 9, 0, "-5", 99), 9);
        due("twice 49", pays(OFFICER, 0, 0, "49", 99), 98);
        due("twice 50", pays(OFFICER, 0, 0, "50", 99), 99);
    }

    private static void paysByLamb() {
        says(5, "LAMB: NUMBER more than an OFFICER, if ROUND is even, else as an OFFICER");
        due("ROUND 0", pays(LAMB, 9, 0, "1", 99), 11);
        due("ROUND 1", pays(LAMB, 9, 1, "1", 99), 2);
        due("ROUND 998", pays(LAMB, 9, 998, "1", 99), 11);
        due("ROUND 999", pays(LAMB, 9, 999, "1", 99), 2);
        due("NUMBER 0", pays(LAMB, 0, 0, "1", 99), 2);
        due("NUMBER 9 and nothing else", pays(LAMB, 9, 0, "0", 99), 9);
    }

    private static int will(int kind, String wills) {
        return rule(owing(room(kind, 1, DANCER, 0), 10, 1), "pays 1;wills " + wills + ";breath 4;").asks(0, 1, 1);
    }

    private static void willByText() {
        says(5, "wills telling yes, if it isn't 0");
        int[] byNo = {0, 1, 0, 1, 0, 0};
        int[] byYes = {1, 1, 1, 1, 1, 0};
        for (int kind = 0; kind < 6; kind++) {
            due("0, KIND " + kind, will(kind, "0"), byNo[kind]);
            for (String yes : new String[] {"1", "-1", "2", "100", "256", "256*256", "256*256*256*128", "-100"}) {
                due(yes + ", KIND " + kind, will(kind, yes), byYes[kind]);
            }
            due("0 by wrapping, KIND " + kind, will(kind, "256*256*256*256"), byNo[kind]);
        }
    }

    private static void willByDebt() {
        says(5, "MOTHER: if yes, and that one OWES her any");
        DanceStillOwed x = owing(room(MOTHER, 0, DANCER, 0, DANCER, 0), 1, 9, 20, 9);
        due("of no DEBT", x.asks(0, 1, 1), 0);
        due("of a DEBT of 1", owing(x, 10, 1).asks(0, 1, 1), 1);
        due("of a DEBT of 0 again", owing(x, 10, 0).asks(0, 1, 1), 0);
        says(5, "WALLFLOWER: as a MOTHER, or if nobody OWES her any");
        DanceStillOwed y = owing(room(WALLFLOWER, 0, DANCER, 0, DANCER, 0), 1, 9, 2, 9);
        due("nobody OWES her any", y.asks(0, 1, 1), 1);
        due("another OWES her 1", owing(y, 20, 1).asks(0, 1, 1), 0);
        due("that one does too", owing(y, 10, 1).asks(0, 1, 1), 1);
        due("that one alone", owing(y, 20, 0).asks(0, 1, 1), 1);
        rule(y, "pays 1;wills 0;breath 4;");
        due("that one alone, with no", y.asks(0, 1, 1), 0);
        due("nobody, with no", owing(y, 10, 0).asks(0, 1, 1), 1);
    }

    private static void willByDone() {
        says(5, "LAMB: as an OFFICER, but not if DONE is NUMBER");
        DanceStillOwed x = room(LAMB, 5, DANCER, 0);
        for (int done = 0; done < 100; done++) {
            x.set(3, 0, done);
            due("DONE " + done, x.asks(0, 1, 1), done == 5 ? 0 : 1);
        }
        due("0 of 0", room(LAMB, 0, DANCER, 0).asks(0, 1, 1), 0);
        x.set(2, 0, 9);
        x.set(3, 0, 9);
        due("9 of 9", x.asks(0, 1, 1), 0);
    }

    private static void mayByDebt() {
        says(5, "A two MAY dance, if either OWES the other any");
        DanceStillOwed x = many(3, DANCER);
        owing(x, 12, 9, 20, 9);
        due("neither", x.asks(0, 1, 2), 0);
        due("the one, 1", owing(x, 1, 1).asks(0, 1, 2), 1);
        due("both, 1", owing(x, 10, 1).asks(0, 1, 2), 1);
        due("the other, 1", owing(x, 1, 0).asks(0, 1, 2), 1);
        due("neither again", owing(x, 10, 0).asks(1, 0, 2), 0);
    }

    private static void mayByWill() {
        says(5, "MAY dance, if both WILL");
        DanceStillOwed x = owing(room(BAND, 9, OFFICER, 0, DANCER, 0, DANCER, 0), 1, 1, 12, 1, 23, 1);
        due("the lesser won't", x.asks(0, 1, 2), 0);
        due("the greater won't", x.asks(1, 0, 2), 0);
        due("both", x.asks(1, 2, 2), 1);
        rule(x, "pays 1;wills number;breath 4;");
        due("one won't", x.asks(1, 2, 2), 0);
        due("neither will", x.asks(2, 3, 2), 0);
        x.set(2, 2, 1);
        due("now both", x.asks(1, 2, 2), 1);
        due("now the one", x.asks(2, 3, 2), 0);
    }

    private static void mayByBreath() {
        says(5, "MAY dance, if DONE of each is below its BREATH");
        DanceStillOwed x = owing(many(2, DANCER), 1, 1);
        for (int one = 0; one < 2; one++) {
            x.set(3, one, 3);
            due("DONE 3 of 4", x.asks(0, 1, 2), 1);
            x.set(3, one, 4);
            due("DONE 4 of 4", x.asks(0, 1, 2), 0);
            x.set(3, one, 5);
            due("DONE 5 of 4", x.asks(0, 1, 2), 0);
            x.set(3, one, 0);
        }
        rule(x, "pays 1;wills 1;breath 0;");
        due("DONE 0 of 0", x.asks(0, 1, 2), 0);
        DanceStillOwed y = owing(many(2, WALLFLOWER), 1, 1);
        y.set(3, 0, 98);
        due("DONE 98 of 99", y.asks(0, 1, 2), 1);
        y.set(3, 0, 99);
        due("DONE 99 of 99", y.asks(0, 1, 2), 0);
    }
}
