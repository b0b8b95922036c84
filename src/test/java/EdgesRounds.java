/** The edges of promises 9 to 13: dances, ROUNDS, NIGHTS, rings that are struck off, ROUNDS in thought. */
public final class EdgesRounds extends Edges {
    public static void main(String[] args) {
        danceBad();
        danceState();
        danceDone();
        danceDebts();
        danceAhead();
        roundLast();
        roundNobody();
        roundTwos();
        roundTold();
        nightLast();
        nightSum();
        strikeDigits();
        strikeState();
        strikeLeast();
        runBad();
        runMost();
        runBeyond();
        runOwed();
        end("EdgesRounds");
    }

    private static void danceBad() {
        says(9, "BAD: no such two, one and the same");
        for (int[] two : noTwos(3)) {
            refused("of " + two[0] + " and " + two[1], BAD, x -> x.dance(two[0], two[1]), BUSY);
        }
        for (int[] two : noTwos(5)) {
            refused("of " + two[0] + " and " + two[1], BAD, x -> x.dance(two[0], two[1]), CROWDED);
        }
        refused("where nobody is", BAD, x -> x.dance(0, 1), BARE);
        refused("where nobody is", BAD, x -> x.dance(0, 0), BARE);
        due("the greater first", owing(many(5, DANCER), 34, 1).dance(4, 3), 1);
        due("the lesser first", owing(many(5, DANCER), 34, 1).dance(3, 4), 1);
        says(9, "BAD; STATE: the first that the words name");
        DanceStillOwed x = many(2, BAND);
        due("one and the same who will not", x.dance(0, 0), BAD);
        due("with none such who owes none", x.dance(0, 2), BAD);
    }

    private static void danceState() {
        says(9, "STATE: they MAY not");
        refused("neither OWES any", STATE, x -> x.dance(0, 1), () -> owing(many(3, DANCER), 12, 1, 20, 1));
        refused("the one won't", STATE, x -> x.dance(0, 1), () -> owing(room(BAND, 9, OFFICER, 0), 1, 1, 10, 1));
        refused("the other won't", STATE, x -> x.dance(0, 1), () -> owing(room(OFFICER, 0, BAND, 9), 1, 1, 10, 1));
        for (int one = 0; one < 2; one++) {
            int tired = one;
            refused("no breath of " + one, STATE, x -> x.dance(0, 1), () -> {
                DanceStillOwed x = owing(many(2, DANCER), 1, 1, 10, 1);
                x.set(3, tired, 4);
                return x;
            });
            DanceStillOwed y = owing(many(2, DANCER), 1, 1, 10, 1);
            y.set(3, tired, 3);
            due("the last breath of " + one, y.dance(0, 1), 2);
            due("DONE of " + one, y.told(tired, 3), 4);
        }
        due("all is paid", owing(many(2, DANCER), 1, 1).dance(0, 1), 1);
        says(9, "a dance heeds no STATE of ROUND or NIGHT");
        DanceStillOwed z = CROWDED.made();
        due("ROUND 999, NIGHT 999", z.dance(1, 2), 1);
        due("ROUND stays", z.told(0, 0), 999);
    }

    private static void danceDone() {
        says(9, "DONE of both is 1 more (99 at most)");
        DanceStillOwed x = owing(room(WALLFLOWER, 0, WALLFLOWER, 0, DANCER, 0), 1, 9, 10, 9, 12, 9);
        x.set(3, 0, 98);
        x.set(3, 1, 97);
        due("PAID", x.dance(0, 1), 18);
        due("98 and 1 more", x.told(0, 3), 99);
        due("97 and 1 more", x.told(1, 3), 98);
        due("of others none", x.told(2, 3), 0);
        owing(x, 1, 9);
        due("no more behind 99", x.dance(0, 1), STATE);
        due("still 99", x.told(0, 3), 99);
    }

    private static void danceDebts() {
        says(9, "the DEBTS are so much less: as far as 0");
        DanceStillOwed x = rule(owing(room(DANCER, 0, DANCER, 0, DANCER, 0), 1, 3, 10, 2, 2, 5), "pays 2;wills 1;breath 4;");
        due("PAID", x.dance(0, 1), 4);
        due("what is left", debt(x, 1), 1);
        due("nothing is left", debt(x, 10), 0);
        due("to others all is left", debt(x, 2), 5);
        due("the last of it", x.dance(0, 1), 1);
        due("nothing is left", debt(x, 1), 0);
        due("nothing to pay", x.dance(0, 1), STATE);
        says(9, "PAID may be 0, or all that there is");
        due("0", rule(owing(many(2, DANCER), 1, 9), "pays 0;wills 1;breath 4;").dance(0, 1), 0);
        due("198", owing(many(2, WALLFLOWER), 1, 99, 10, 99).dance(0, 1), 198);
    }

    private static void danceAhead() {
        says(9, "of each it is told what is PAID of the DEBT to the other (both ahead)");
        DanceStillOwed x = rule(owing(many(2, DANCER), 1, 8, 10, 8), "pays owed+done*20;wills 1;breath 4;");
        due("both by what was OWED ahead", x.dance(0, 1), 16);
        DanceStillOwed y = rule(owing(many(2, DANCER), 1, 8, 10, 3), "pays owed;wills 1;breath 4;");
        due("3 of 8 and 3 of 3", y.dance(0, 1), 6);
        DanceStillOwed z = rule(owing(many(2, DANCER), 1, 3, 10, 8), "pays owed;wills 1;breath 4;");
        due("3 of 3 and 3 of 8", z.dance(0, 1), 6);
        due("what is left of 8", debt(z, 10), 5);
    }

    private static void roundLast() {
        says(10, "STATE: ROUND is 999");
        DanceStillOwed x = owing(many(2, DANCER), 1, 9);
        x.set(0, 0, 997);
        due("ROUND 997", x.round(), 1);
        due("ROUND 998", x.round(), 1);
        due("it is 999", x.told(0, 0), 999);
        due("ROUND 999", x.round(), STATE);
        refused("ROUND 999, though two MAY dance", STATE, DanceStillOwed::round, CROWDED);
        DanceStillOwed y = new DanceStillOwed();
        y.set(0, 0, 999);
        due("ROUND 999 where nobody is", y.round(), STATE);
        DanceStillOwed z = CROWDED.made();
        z.set(0, 0, 998);
        due("NIGHT 999 does not matter", z.round(), 3);
    }

    private static void roundNobody() {
        says(10, "A ROUND in which nobody dances: PAID is 0, ROUND is 1 more");
        DanceStillOwed x = new DanceStillOwed();
        due("where nobody is", x.round(), 0);
        due("ROUND", x.told(0, 0), 1);
        DanceStillOwed y = room(DANCER, 0);
        due("where one is", y.round(), 0);
        due("ROUND", y.told(0, 0), 1);
        due("DONE", y.told(0, 3), 0);
        DanceStillOwed z = many(5, DANCER);
        due("where nobody OWES any", z.round(), 0);
        due("DONE of the last", z.told(4, 3), 0);
    }

    private static void roundTwos() {
        says(10, "twos, by their lesser, then by their greater numbers, neither having danced in it, DANCE");
        int[] debts = {1, 2, 3, 4, 12, 13, 14, 23, 24, 34};
        for (int first = 0; first < 10; first++) {
            for (int second = first + 1; second < 10; second++) {
                DanceStillOwed x = owing(many(5, DANCER), debts[second], 9, debts[first], 9);
                int a = debts[first];
                int b = debts[second];
                boolean apart = a / 10 != b / 10 && a / 10 != b % 10 && a % 10 != b / 10 && a % 10 != b % 10;
                due(a + " and " + b, x.round(), apart ? 2 : 1);
                due(a + " is first", debt(x, a), 8);
                due(b + " is second", debt(x, b), apart ? 8 : 9);
            }
        }
        DanceStillOwed all = many(5, DANCER);
        owing(all, 1, 1, 2, 1, 3, 1, 4, 1, 12, 1, 13, 1, 14, 1, 23, 1, 24, 1, 34, 1);
        due("two twos of five", all.round(), 2);
        due("the fifth sits", all.told(4, 3), 0);
    }

    private static void roundTold() {
        says(10, "each of whom MAY dance (told as all is then)");
        DanceStillOwed x = owing(room(DANCER, 1, DANCER, 2, DANCER, 3, DANCER, 4), 1, 1, 23, 1, 21, 1);
        rule(x, "pays 1;wills (number<3) or owed=0 or owed=1;breath 4;");
        due("both twos", x.round(), 2);
        DanceStillOwed y = rule(owing(many(4, DANCER), 1, 2, 23, 2), "pays 1+round;wills round=0;breath 4;");
        due("ROUND is 1 more behind it alone", y.round(), 2);
        due("and is told then", y.round(), 0);
    }

    private static void nightLast() {
        says(11, "STATE: NIGHT is 999");
        DanceStillOwed x = room(DANCER, 0);
        x.set(1, 0, 997);
        due("NIGHT 997", x.night(), 0);
        due("NIGHT 998", x.night(), 0);
        due("it is 999", x.told(0, 1), 999);
        due("NIGHT 999", x.night(), STATE);
        refused("NIGHT 999", STATE, DanceStillOwed::night, CROWDED);
        DanceStillOwed y = new DanceStillOwed();
        y.set(1, 0, 999);
        due("NIGHT 999 where nobody is", y.night(), STATE);
        DanceStillOwed z = CROWDED.made();
        z.set(1, 0, 998);
        due("ROUND 999 does not matter", z.night(), 5);
        due("ROUND stays", z.told(0, 0), 999);
    }

    private static void nightSum() {
        says(11, "how often all DANCED in it, together: DONE of all is 0, NIGHT 1 more");
        DanceStillOwed x = many(5, BAND);
        due("none", x.night(), 0);
        for (int one = 0; one < 5; one++) {
            x.set(3, one, 99);
        }
        due("most", x.night(), 495);
        for (int one = 0; one < 5; one++) {
            due("DONE of " + one, x.told(one, 3), 0);
        }
        due("NIGHT", x.told(0, 1), 2);
        DanceStillOwed y = new DanceStillOwed();
        due("where nobody is", y.night(), 0);
        due("NIGHT", y.told(0, 1), 1);
    }

    private static void strikeDigits() {
        says(12, "a ring (some, as digits: 1 more than each, 2 .. 5 of them, none twice); BAD: digits");
        int[] one = {1, 2, 3, 4, 5};
        int[] six = {123451, 123456, 543216, 112345, 123450, 100012};
        int[] twice = {11, 22, 55, 121, 112, 211, 1231, 1223, 12341, 12344, 55555};
        int[] others = {0, 10, 20, 12030, 102, 120, 16, 61, 19, 90, 12346, 99999, 67890};
        int[] far = {-1, -12, -12345, LEAST, LEAST + 1, MOST, 1000000012, 1234512345, -2147483612};
        for (int[] wrong : new int[][] {one, six, twice, others, far}) {
            for (int digits : wrong) {
                refused("digits " + digits, BAD, x -> x.strike(digits));
            }
        }
        for (int digits : new int[] {14, 41, 24, 1234, 4123, 15}) {
            refused("digits " + digits + " of three", BAD, x -> x.strike(digits), BUSY);
        }
        refused("where nobody is", BAD, x -> x.strike(12), BARE);
        for (int a = 1; a < 6; a++) {
            for (int b = 1; b < 6; b++) {
                if (a != b) {
                    int ab = 10 * (a - 1) + b - 1;
                    int ba = 10 * (b - 1) + a - 1;
                    due("two: " + a + b, owing(many(5, DANCER), ab, 3, ba, 2).strike(10 * a + b), 2);
                }
            }
        }
        due("three", owing(many(3, DANCER), 1, 4, 12, 3, 20, 2).strike(312), 2);
        due("four", owing(many(4, DANCER), 1, 4, 12, 3, 23, 2, 30, 1).strike(2341), 1);
        due("five", owing(many(5, DANCER), 1, 4, 12, 3, 23, 2, 34, 5, 40, 6).strike(51234), 2);
    }

    private static void strikeState() {
        says(12, "STATE: that is 0");
        Scene ring = () -> owing(many(5, DANCER), 1, 9, 12, 9, 23, 9, 34, 9, 40, 9);
        for (int broken : new int[] {1, 12, 23, 34, 40}) {
            refused("broken at " + broken, STATE, x -> x.strike(12345), () -> owing(ring.made(), broken, 0));
        }
        refused("the other way", STATE, x -> x.strike(54321), ring);
        refused("two of it", STATE, x -> x.strike(12), ring);
        refused("nobody OWES any", STATE, x -> x.strike(12), () -> many(2, DANCER));
        says(12, "BAD; STATE: the first that the words name");
        refused("one, who OWES none", BAD, x -> x.strike(1), () -> many(2, DANCER));
        refused("one twice, who OWES none", BAD, x -> x.strike(11), () -> many(2, DANCER));
        refused("with none such, who OWES none", BAD, x -> x.strike(13), () -> many(2, DANCER));
    }

    private static void strikeLeast() {
        says(12, "the least DEBT of each to the next, and the last to the first, is off each of these");
        for (int least = 0; least < 5; least++) {
            DanceStillOwed x = owing(many(5, DANCER), 1, 9, 12, 9, 23, 9, 34, 9, 40, 9, 10, 9, 2, 9);
            int[] debts = {1, 12, 23, 34, 40};
            owing(x, debts[least], 1);
            due("1 at " + debts[least], x.strike(12345), 1);
            for (int k = 0; k < 5; k++) {
                due("what is left at " + debts[k], debt(x, debts[k]), k == least ? 0 : 8);
            }
            due("what is off others", 18 - debt(x, 10) - debt(x, 2), 0);
            due("it is broken", x.strike(12345), STATE);
        }
        for (int ring : rings()) {
            DanceStillOwed x = many(5, DANCER);
            for (int of : round(ring)) {
                owing(x, of, 3);
            }
            owing(x, round(ring)[1], 2);
            due("ring " + ring, x.strike(ring), 2);
            due("what is left of " + ring, x.count(1), round(ring).length - 1);
        }
        DanceStillOwed y = owing(many(2, DANCER), 1, 99, 10, 99);
        due("99", y.strike(21), 99);
        due("nothing is left", y.count(1), 0);
        due("nobody has DANCED", y.told(0, 3) + y.told(1, 3) + y.told(0, 0), 0);
    }

    private static void runBad() {
        says(13, "BAD: n");
        for (int n : beside(0, 40)) {
            for (int what = 0; what < 3; what++) {
                int asked = what;
                refused("n " + n, BAD, x -> x.run(n, 0, 1, asked));
            }
        }
        says(13, "BAD: what");
        for (int what : beside(0, 2)) {
            refused("what " + what, BAD, x -> x.run(1, 0, 1, what));
        }
        says(13, "with what 2: no such two, one and the same");
        for (int[] two : noTwos(3)) {
            refused("of " + two[0] + " and " + two[1], BAD, x -> x.run(0, two[0], two[1], 2), BUSY);
            due("with what 0 they do not matter", BUSY.made().run(0, two[0], two[1], 0), 14);
            due("with what 1 they do not matter", BUSY.made().run(0, two[0], two[1], 1), 7);
        }
        refused("where nobody is", BAD, x -> x.run(0, 0, 1, 2), BARE);
        due("what 0 where nobody is", BARE.made().run(40, 0, 0, 0), 0);
        due("what 1 where nobody is", BARE.made().run(40, 0, 0, 1), 0);
    }

    private static DanceStillOwed untiring(int... debts) {
        return rule(owing(many(3, DANCER), debts), "pays 1;wills 1;breath 99;");
    }

    private static void runMost() {
        says(13, "n ROUNDS (0 .. 40)");
        DanceStillOwed x = untiring(1, 99, 10, 41);
        for (int n = 0; n <= 40; n++) {
            due(n + " ROUNDS: what one OWES", x.run(n, 0, 1, 2), 99 - n);
            due(n + " ROUNDS: what the other OWES", x.run(n, 1, 0, 2), 41 - n);
            due(n + " ROUNDS: what all OWE", x.run(n, 0, 0, 0), 140 - 2 * n);
            due(n + " ROUNDS: who is OWED any", x.run(n, 0, 0, 1), 3);
        }
        due("behind the last", untiring(1, 40).run(40, 0, 0, 1), 0);
        due("behind the last but one", untiring(1, 40).run(39, 0, 0, 1), 2);
    }

    private static void runBeyond() {
        says(13, "in thought (there ROUND may pass 999)");
        DanceStillOwed x = untiring(1, 99);
        x.set(0, 0, 999);
        due("from ROUND 999", x.run(40, 0, 1, 2), 59);
        due("ROUND stays", x.told(0, 0), 999);
        rule(x, "pays 999<round;wills 1;breath 99;");
        due("as ROUND 999", x.run(1, 0, 1, 2), 99);
        due("as ROUND 1000", x.run(2, 0, 1, 2), 98);
        rule(x, "pays round=1038;wills 1;breath 99;");
        due("as ROUND 1038", x.run(40, 0, 1, 2), 98);
        due("not yet", x.run(39, 0, 1, 2), 99);
        says(13, "n ROUNDS, in thought: nothing changes");
        DanceStillOwed busy = BUSY.made();
        for (int what = 0; what < 3; what++) {
            busy.run(40, 0, 1, what);
        }
        same("40 ROUNDS", busy, BUSY.made());
    }

    private static void runOwed() {
        says(13, "who still is OWED any (bits)");
        int[] to = {10, 1, 2, 3, 4};
        for (int one = 0; one < 5; one++) {
            due("only " + one, owing(many(5, BAND), to[one], 1).run(40, 0, 0, 1), 1 << one);
        }
        due("all five", owing(many(5, BAND), 10, 1, 1, 1, 2, 1, 3, 1, 4, 1).run(0, 0, 0, 1), 31);
        due("nobody", many(5, BAND).run(0, 0, 0, 1), 0);
    }
}
