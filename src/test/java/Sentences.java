/**
 * The document from its first line: sentences that name no edge, in their order. Above all whose NUMBER, DONE and DEBTS
 * are meant, and that what is told in thought is what comes of the same calls when they are truly made.
 */
public final class Sentences extends Edges {
    /** A rule of which each part heeds each NAME that it can. */
    private static final String HEEDS_ALL =
        "pays 1+(owed<9)+number+(round<9)*2-done+night;wills number<7 or round-night<9;breath owed-done+round-night+number;";
    /** PAYS 29 where all is as it says, else less: by 1 .. 14, after what is otherwise. */
    private static final String SAYS_ALL =
        "pays(owed=9)+2*(number=5)+4*(round=7)+8*(done=2)+14*(night=3);wills 1;breath 9;";

    public static void main(String[] args) {
        kinds();
        numbersOfEach();
        owedTo();
        paysOfKinds();
        willOfKinds();
        breathOfKinds();
        toldOfOne();
        may();
        danceDone();
        rounds();
        night();
        bestNow();
        soonestMay();
        soonestTruly();
        soonestNight();
        struck();
        runTruly();
        nextTruly();
        endsTruly();
        tellsAsNow();
        tellsTruly();
        filmTruly();
        drawnTruly();
        chanceTruly();
        shares();
        imageOfEach();
        forced();
        end("Sentences");
    }

    /** Five of unlike kinds and numbers who owe each other much, in the midst of a night. */
    private static DanceStillOwed party(int turn) {
        DanceStillOwed x = new DanceStillOwed();
        for (int one = 0; one < 5; one++) {
            x.dancer((one + turn) % 6, (one * 3 + turn) % 10);
            x.set(3, one, (one + turn / 5) % 4);
        }
        for (int one = 0; one < 5; one++) {
            for (int other = 0; other < 5; other++) {
                x.set(4, 10 * one + other, (one * 7 + other * 5 + turn * 3) % 8);
            }
        }
        x.set(0, 0, turn % 2 == 0 ? 3 + turn : 998);
        x.set(1, 0, turn % 3);
        return turn % 4 == 3 ? x : rule(x, HEEDS_ALL);
    }

    private static final int TURNS = 24;

    private static void kinds() {
        says(3, "One of DANCERS: the number; of a KIND and a NUMBER");
        DanceStillOwed x = new DanceStillOwed();
        int[] came = {4, 0, 5, 2, 1};
        for (int one = 0; one < 5; one++) {
            due("who came", x.dancer(came[one], 2 * one), one);
        }
        for (int one = 0; one < 5; one++) {
            due("KIND of " + one, x.told(one, 5), came[one]);
            due("NUMBER of " + one, x.told(one, 2), 2 * one);
        }
    }

    private static void numbersOfEach() {
        says(2, "NUMBER, DONE of one of DANCERS, DEBT of one to another one: of no others");
        DanceStillOwed x = many(5, DANCER);
        for (int one = 0; one < 5; one++) {
            x.set(2, one, one + 1);
            x.set(3, one, one + 11);
            for (int other = 0; other < 5; other++) {
                x.set(4, 10 * one + other, 20 + 10 * one + other);
            }
        }
        for (int one = 0; one < 5; one++) {
            due("NUMBER of " + one, x.told(one, 2), one + 1);
            due("DONE of " + one, x.told(one, 3), one + 11);
            for (int other = 0; other < 5; other++) {
                due("DEBT of " + one + " to " + other, debt(x, 10 * one + other), one == other ? BAD : 20 + 10 * one + other);
            }
        }
        due("ROUND", x.told(0, 0), 0);
        due("NIGHT", x.told(0, 1), 0);
        x.set(0, 0, 5);
        x.set(1, 0, 6);
        due("ROUND", x.told(0, 0), 5);
        due("NIGHT", x.told(0, 1), 6);
    }

    private static void owedTo() {
        says(4, "OWED to one: what all others OWE that one, together");
        DanceStillOwed x = owing(many(5, DANCER), 1, 1, 2, 2, 10, 4, 12, 8, 20, 16, 31, 32, 43, 64);
        int[] owes = {3, 12, 16, 32, 64};
        int[] owed = {20, 33, 10, 64, 0};
        for (int one = 0; one < 5; one++) {
            due("what " + one + " OWES", x.told(one, 7), owes[one]);
            due("OWED to " + one, x.told(one, 8), owed[one]);
        }
        due("what all OWE, together", x.count(1), 127);
    }

    private static void paysOfKinds() {
        says(5, "PAYS: DANCER: v; OFFICER: twice; MOTHER: 1; LAMB: NUMBER more, or not; WALLFLOWER: all; BAND: 0");
        int[] even = {3, 6, 1, 10, 20, 0};
        int[] odd = {3, 6, 1, 6, 20, 0};
        for (int kind = 0; kind < 6; kind++) {
            DanceStillOwed x = rule(owing(room(kind, 4, DANCER, 9), 1, 20, 10, 30), "pays 3;wills 1;breath 4;");
            due("KIND " + kind, x.asks(0, 1, 0), even[kind]);
            x.set(0, 0, 77);
            due("KIND " + kind + ", an odd ROUND", x.asks(0, 1, 0), odd[kind]);
            x.set(1, 0, 1);
            x.set(0, 0, 78);
            due("KIND " + kind + ", an odd NIGHT", x.asks(0, 1, 0), even[kind]);
            due("the other one, by THE RULE too", x.asks(1, 0, 0), 3);
        }
    }

    private static void willOfKinds() {
        says(5, "WILL: OFFICER: always; LAMB: as an OFFICER: whatever wills tells, whoever OWES");
        for (int kind : new int[] {OFFICER, LAMB}) {
            DanceStillOwed x = rule(room(kind, 4, DANCER, 9), "pays 3;wills 0;breath 4;");
            due("KIND " + kind + ", no DEBTS", x.asks(0, 1, 1), 1);
            due("KIND " + kind + ", DONE of the other is NUMBER", x.set(3, 1, 4) + x.asks(0, 1, 1), 1);
            due("KIND " + kind + ", who OWES", owing(x, 1, 9).asks(0, 1, 1), 1);
            due("KIND " + kind + ", who is OWED", owing(x, 1, 0, 10, 9).asks(0, 1, 1), 1);
        }
    }

    private static void breathOfKinds() {
        says(4, "BREATH: DANCER: v; OFFICER: 3 more; MOTHER: half; LAMB: as an OFFICER; WALLFLOWER: 99; BAND: NUMBER");
        int[] breaths = {6, 9, 3, 9, 99, 8};
        for (int kind = 0; kind < 6; kind++) {
            DanceStillOwed x = rule(owing(room(kind, 8, DANCER, 2), 1, 20, 10, 30), "pays 3;wills 1;breath 6;");
            due("KIND " + kind, x.told(0, 6), breaths[kind]);
            due("the other one's", x.told(1, 6), 6);
        }
        says(4, "BREATH told of debt 0, of each KIND that heeds a TEXT");
        int[] of = {0, 3, 0, 3};
        for (int kind = 0; kind < 4; kind++) {
            due("KIND " + kind, rule(owing(room(kind, 8, DANCER, 2), 1, 20), "pays 3;wills 1;breath debt;").told(0, 6), of[kind]);
        }
    }

    /** Two of whom each NAME tells otherwise, so that it is seen of whom it is told. */
    private static DanceStillOwed unlike(int kind, String text) {
        DanceStillOwed x = owing(room(kind, 3, kind, 4, DANCER, 9), 1, 20, 10, 21, 21, 5);
        x.set(3, 0, 1);
        x.set(3, 1, 2);
        return rule(x, text);
    }

    private static void toldOfOne() {
        String[] names = {"debt", "owed", "number", "done"};
        int[][] are = {{20, 21}, {21, 25}, {3, 4}, {1, 2}};
        for (int k = 0; k < names.length; k++) {
            says(7, names[k] + ", of one of DANCERS and another one: of the one who PAYS, WILL, has BREATH");
            for (int one = 0; one < 2; one++) {
                String is = names[k] + "=" + are[k][one];
                due("pays", unlike(DANCER, "pays 10+(" + is + ");wills 1;breath 1;").asks(one, 1 - one, 0), 11);
                due("pays, the other", unlike(DANCER, "pays 10+(" + is + ");wills 1;breath 1;").asks(1 - one, one, 0), 10);
                for (int kind : new int[] {DANCER, MOTHER, WALLFLOWER}) {
                    due("wills", unlike(kind, "pays 1;wills " + is + ";breath 1;").asks(one, 1 - one, 1), 1);
                    due("wills, the other", unlike(kind, "pays 1;wills " + is + ";breath 1;").asks(1 - one, one, 1), 0);
                }
                String breath = "pays 1;wills 1;breath 10+4*(" + is + ");";
                int[] breaths = {10, 13, 5, 13};
                int[] more = {14, 17, 7, 17};
                for (int kind = 0; kind < 4; kind++) {
                    due("breath", unlike(kind, breath).told(one, 6), k == 0 ? breaths[kind] : more[kind]);
                    due("breath, the other", unlike(kind, breath).told(1 - one, 6), breaths[kind]);
                }
            }
        }
        says(7, "owed: OWED to one, by others too");
        due("of 21 and 5", unlike(DANCER, "pays 10+(owed=26);wills 1;breath 1;").set(4, 21, 5), 5);
        DanceStillOwed x = owing(unlike(DANCER, "pays owed-20;wills owed=28;breath owed;"), 20, 7);
        due("pays", x.asks(0, 1, 0), 8);
        due("wills", x.asks(0, 1, 1), 1);
        due("breath", x.told(0, 6), 28);
    }

    private static void may() {
        says(5, "MAY dance, if DONE of each is below its BREATH: its own");
        for (int one = 0; one < 2; one++) {
            DanceStillOwed x = rule(owing(many(2, DANCER), 1, 5, 10, 5), "pays 1;wills 1;breath number;");
            x.set(2, one, 3);
            x.set(2, 1 - one, 1);
            x.set(3, one, 2);
            due("2 of 3, 0 of 1", x.asks(0, 1, 2), 1);
            x.set(3, one, 3);
            due("3 of 3, 0 of 1", x.asks(0, 1, 2), 0);
            x.set(3, one, 0);
            x.set(3, 1 - one, 1);
            due("0 of 3, 1 of 1", x.asks(0, 1, 2), 0);
            x.set(3, one, 1);
            x.set(3, 1 - one, 0);
            due("1 of 3, 0 of 1", x.asks(1, 0, 2), 1);
        }
        says(5, "WALLFLOWER, OFFICER and DANCER, each by its own BREATH");
        DanceStillOwed y = owing(room(WALLFLOWER, 0, DANCER, 0, OFFICER, 0), 1, 5, 12, 5, 20, 5, 2, 5, 10, 5);
        y.set(3, 0, 50);
        y.set(3, 2, 6);
        due("50 of 99, 0 of 4", y.asks(0, 1, 2), 1);
        due("0 of 4, 6 of 7", y.asks(1, 2, 2), 1);
        due("50 of 99, 6 of 7", y.asks(0, 2, 2), 1);
        y.set(3, 1, 4);
        due("50 of 99, 4 of 4", y.asks(0, 1, 2), 0);
        due("4 of 4, 6 of 7", y.asks(1, 2, 2), 0);
    }

    private static void danceDone() {
        says(9, "DONE of both is 1 more, be anything PAID or not; of nobody else, and ROUND and NIGHT are as they were");
        for (int v = 0; v < 2; v++) {
            DanceStillOwed x = rule(owing(many(3, DANCER), 1, 5, 12, 5), "pays " + v + ";wills 1;breath 4;");
            x.set(0, 0, 5);
            x.set(1, 0, 6);
            due("PAID by one", x.dance(0, 1), v);
            due("DONE of one", x.told(0, 3), 1);
            due("DONE of the other, who OWES that one none", x.told(1, 3), 1);
            due("DONE of a third", x.told(2, 3), 0);
            due("PAID by the lesser", x.dance(2, 1), v);
            due("DONE", x.told(0, 3) * 100 + x.told(1, 3) * 10 + x.told(2, 3), 121);
            due("ROUND, NIGHT", x.told(0, 0) * 10 + x.told(0, 1), 56);
        }
    }

    private static void rounds() {
        says(10, "A ROUND: twos that MAY dance, DANCE: as by dance(), one behind the other; ROUND is 1 more");
        for (int turn = 0; turn < TURNS; turn++) {
            DanceStillOwed x = party(turn);
            DanceStillOwed by = party(turn);
            int danced = 0;
            int paid = 0;
            for (int one = 0; one < 5; one++) {
                for (int other = one + 1; other < 5; other++) {
                    int both = 1 << one | 1 << other;
                    if ((danced & both) == 0 && by.asks(one, other, 2) == 1) {
                        danced |= both;
                        paid += by.dance(one, other);
                    }
                }
            }
            by.set(0, 0, by.told(0, 0) + 1);
            due("PAID", x.round(), paid);
            same("turn " + turn, x, by);
        }
    }

    private static void night() {
        says(11, "A NIGHT is over: DONE of all is 0, NIGHT 1 more: and nothing else");
        for (int turn = 0; turn < TURNS; turn++) {
            DanceStillOwed x = party(turn);
            DanceStillOwed by = party(turn);
            int done = 0;
            for (int one = 0; one < 5; one++) {
                done += by.set(3, one, 0);
            }
            by.set(1, 0, by.told(0, 1) + 1);
            due("how often all DANCED", x.night(), done);
            same("turn " + turn, x, by);
        }
    }

    private static void bestNow() {
        says(14, "BEST: PAID told as all is now: ROUND, NIGHT, DONE, NUMBER");
        DanceStillOwed x = owing(room(LAMB, 5, DANCER, 0, WALLFLOWER, 0), 1, 9, 12, 0, 21, 5);
        due("an even ROUND", x.best(0) * 10 + x.best(1), 10 + 7);
        x.set(0, 0, 1);
        due("an odd ROUND", x.best(0) * 10 + x.best(1), 160 + 5);
        x.set(0, 0, 999);
        due("the last ROUND", x.best(0) * 10 + x.best(1), 160 + 5);
        for (int turn = 0; turn < TURNS; turn++) {
            DanceStillOwed y = party(turn);
            int most = 0;
            for (int one = 0; one < 5; one++) {
                for (int other = one + 1; other < 5; other++) {
                    for (int third = one; third < 5; third++) {
                        for (int fourth = third + 1; fourth < 5; fourth++) {
                            boolean apart = third != one && third != other && fourth != other;
                            most = Math.max(most, paid(y, one, other) + (apart ? paid(y, third, fourth) : 0));
                        }
                    }
                }
            }
            due("PAID by it, turn " + turn, y.best(1), most);
        }
    }

    /** What a two would PAY now, 0 if it MAY not dance. */
    private static int paid(DanceStillOwed x, int one, int other) {
        return x.asks(one, other, 2) == 1 ? x.asks(one, other, 0) + x.asks(other, one, 0) : 0;
    }

    private static void soonestMay() {
        says(14, "SOONEST: of such sets of twos, each of whom MAY dance as all is then, whatever was asked ahead");
        DanceStillOwed x = rule(owing(many(2, DANCER), 1, 2), "pays 1;wills not round=6;breath 9;");
        int[] soon = {2, 3, 3, 2, 2};
        for (int turn = 0; turn < 3; turn++) {
            for (int k = 0; k < 5; k++) {
                x.set(0, 0, 4 + k);
                due("from ROUND " + (4 + k), x.best(4), soon[k]);
            }
        }
        says(14, "SOONEST: DONE, NUMBER of each, as they are now");
        for (int one = 0; one < 4; one++) {
            int other = one ^ 1;
            DanceStillOwed y = rule(owing(many(4, DANCER), 10 * one + other, 3), "pays 1;wills number<5;breath 9;");
            y.set(3, one, 6);
            due("DONE 6 of 9", y.best(4), 3);
            y.set(3, one, 7);
            due("DONE 7 of 9", y.best(4), NONE);
            y.set(3, one, 0);
            y.set(2, one, 4);
            due("NUMBER 4", y.best(4), 3);
            y.set(2, one, 5);
            due("NUMBER 5", y.best(4), NONE);
            y.set(2, one, 0);
            y.set(2, (one + 2) % 4, 5);
            y.set(3, (one + 2) % 4, 9);
            due("of those who owe none", y.best(4), 3);
        }
    }

    /** Four of unlike kinds who owe each other little, late in a night. */
    private static DanceStillOwed few(int turn) {
        DanceStillOwed x = new DanceStillOwed();
        for (int one = 0; one < 4; one++) {
            x.dancer((one * (1 + turn % 2) + turn) % 5, (one + turn) % 4);
            x.set(3, one, (one + turn) % 3);
        }
        for (int k = 0; k < 4; k++) {
            int one = (k + turn) % 4;
            x.set(4, 10 * one + (one + 1 + turn % 3) % 4, (k * 5 + turn) % 4);
        }
        x.set(0, 0, turn % 3);
        x.set(1, 0, turn % 2);
        return turn % 3 == 0 ? x : rule(x, "pays 1+number-done+(owed<2)+night;wills number<9-round-night;breath 3+round;");
    }

    /** The twos of four, and which of them are apart: 0 is none. */
    private static final int[][] TWOS = {{}, {0, 1}, {0, 2}, {0, 3}, {1, 2}, {1, 3}, {2, 3}};
    private static final int[][] SETS = {{0}, {1}, {2}, {3}, {4}, {5}, {6}, {1, 6}, {2, 5}, {3, 4}};

    /** Whether all DEBTS are 0 behind so many ROUNDS of these sets, truly danced: "sets" as digits, the first one last. */
    private static boolean clears(int turn, int rounds, int sets) {
        DanceStillOwed x = few(turn);
        int rest = sets;
        for (int k = 0; k < rounds; k++) {
            for (int two : SETS[rest % 10]) {
                if (two > 0 && x.dance(TWOS[two][0], TWOS[two][1]) == STATE) {
                    return false;
                }
            }
            x.set(0, 0, x.told(0, 0) + 1);
            rest /= 10;
        }
        return x.count(1) == 0;
    }

    private static void soonestTruly() {
        says(14, "SOONEST: by how few ROUNDS of any such sets of twos all DEBTS are 0: all are tried truly");
        int[] found = new int[5];
        for (int turn = 0; turn < 48; turn++) {
            int soon = NONE;
            int many = 1;
            for (int rounds = 0; rounds < 4 && soon == NONE; rounds++, many *= 10) {
                for (int sets = 0; sets < many && soon == NONE; sets++) {
                    soon = clears(turn, rounds, sets) ? rounds : NONE;
                }
            }
            due("turn " + turn, few(turn).best(4), soon);
            found[soon + 1]++;
        }
        due("some are NONE, some 1, 2, 3", Math.min(Math.min(found[0], found[2]), Math.min(found[3], found[4])) > 0 ? 1 : 0, 1);
    }

    private static void soonestNight() {
        says(14, "SOONEST: by ROUNDS of one NIGHT: NIGHT is as it was, DONE 1 more by each dance");
        DanceStillOwed x = rule(owing(many(2, DANCER), 1, 3), "pays 1;wills night=7;breath 9;");
        x.set(1, 0, 7);
        due("in NIGHT 7", x.best(4), 3);
        rule(x, "pays 1;wills done=round;breath 9;");
        due("DONE as ROUND", x.best(4), 3);
    }

    private static void struck() {
        says(12, "STRUCK off a ring: off these DEBTS, and nothing else changes");
        DanceStillOwed x = party(4);
        DanceStillOwed by = party(4);
        for (int one = 0; one < 5; one++) {
            x.set(3, one, one + 1);
            by.set(3, one, one + 1);
        }
        owing(x, 2, 5, 24, 7, 40, 6);
        owing(by, 2, 0, 24, 2, 40, 1);
        due("the least DEBT", x.strike(135), 5);
        same("the ring 1 3 5", x, by);
    }

    private static void runTruly() {
        says(13, "n ROUNDS, in thought: as they come truly");
        for (int turn = 0; turn < TURNS; turn++) {
            DanceStillOwed x = party(turn);
            DanceStillOwed by = party(turn);
            for (int n = 0; n < 7; n++) {
                int owed = 0;
                for (int one = 0; one < 5; one++) {
                    owed |= by.told(one, 8) > 0 ? 1 << one : 0;
                    int other = (one + n % 4 + 1) % 5;
                    due("what one OWES another one", x.run(n, one, other, 2), debt(by, 10 * one + other));
                }
                due("what all OWE", x.run(n, 0, 0, 0), by.count(1));
                due("who still is OWED any", x.run(n, 0, 0, 1), owed);
                by.round();
                if (by.told(0, 0) == 999) {
                    break;
                }
            }
        }
    }

    private static void nextTruly() {
        says(14, "SITS, PAID by the next ROUND: as it comes truly");
        for (int turn = 0; turn < TURNS; turn++) {
            DanceStillOwed x = party(turn);
            DanceStillOwed by = party(turn);
            due("PAID, turn " + turn, x.best(3), by.round());
            int sits = 0;
            for (int one = 0; one < 5; one++) {
                sits |= x.told(one, 3) == by.told(one, 3) ? 1 << one : 0;
            }
            due("who sits, turn " + turn, x.best(2), sits);
        }
        says(14, "SITS, PAID by the next ROUND: told of ROUND, NIGHT, NUMBER, DONE as they are now");
        String[] names = {"round", "night", "number", "done"};
        for (int what = 0; what < 4; what++) {
            DanceStillOwed y = rule(owing(many(2, DANCER), 1, 5, 10, 5), "pays 1;wills " + names[what] + "=7;breath 9;");
            due(names[what] + " is 0: who sits", y.best(2), 3);
            due(names[what] + " is 0: PAID", y.best(3), 0);
            y.set(what, 0, 7);
            y.set(what, 1, 7);
            due(names[what] + " is 7: who sits", y.best(2), 0);
            due(names[what] + " is 7: PAID", y.best(3), 2);
            due(names[what] + " is 7: ENDS", y.best(7), what == 0 || what == 3 ? 1 : 5);
        }
    }

    /** What ENDS is, by ROUNDS that are truly danced; to be asked where they do not pass ROUND 999. */
    private static int ends(DanceStillOwed x) {
        for (int k = 0; k <= 60; k++) {
            if (x.round() == 0) {
                return k;
            }
        }
        return NONE;
    }

    private static void endsTruly() {
        says(14, "ENDS: behind how many ROUNDS nothing is PAID first by the next one: as it comes truly");
        for (int turn = 0; turn < TURNS; turn += 2) {
            due("turn " + turn, party(turn).best(7), ends(party(turn)));
        }
        DanceStillOwed x = rule(owing(many(2, DANCER), 1, 5), "pays not done=2;wills 1;breath 9;");
        due("they DANCE, and nothing is PAID", x.best(7), 2);
        due("though behind more ROUNDS there is", x.run(3, 0, 1, 2) * 10 + x.run(4, 0, 1, 2), 32);
    }

    /** One of five who PAYS 29 of 29, by all NAMES; the others are otherwise. */
    private static DanceStillOwed saidAll(int one) {
        int other = (one + 1) % 5;
        int third = (one + 2) % 5;
        DanceStillOwed x = many(5, DANCER);
        owing(x, 10 * other + one, 4, 10 * third + one, 5, 10 * one + other, 9, 10 * third + other, 9, 10 * one + third, 6);
        x.set(0, 0, 7);
        x.set(1, 0, 3);
        x.set(2, one, 5);
        x.set(2, other, 1);
        x.set(2, third, 5);
        x.set(3, one, 2);
        x.set(3, third, 3);
        rule(x, SAYS_ALL);
        count(x, 0, 0, 30);
        return x;
    }

    private static void tellsAsNow() {
        for (int one = 0; one < 5; one++) {
            tellsAsNow(one, (one + 1) % 5);
        }
    }

    private static void tellsAsNow(int one, int other) {
        says(16, "TOLD of " + one + ": were one of these so, and all else as it is");
        int[] due = {NONE, 1 << DANCER | 1 << OFFICER | 1 << LAMB | 1 << WALLFLOWER, 32, 1, 7, 1, 2, 2, 1 << one};
        for (int what = 0; what < 9; what++) {
            due("what " + what, saidAll(one).tells(0, one, other, what), due[what]);
        }
        String[] otherwise = {"ROUND", "NIGHT", "NUMBER", "DONE", "OWED"};
        int[] first = {26, 16, 28, 22, 29};
        for (int k = 0; k < 5; k++) {
            DanceStillOwed x = saidAll(one);
            if (k < 4) {
                x.set(k, one, 9);
            } else {
                owing(x, 10 * other + one, 3);
            }
            due(otherwise[k] + " is otherwise", x.tells(0, one, other, 0), first[k]);
            due(otherwise[k] + ", KINDS", x.tells(0, one, other, 1), due[1] - 1);
            due(otherwise[k] + ", ROUNDS", x.tells(0, one, other, 3), k == 0 ? 1 : 0);
            due(otherwise[k] + ", the least ROUND", x.tells(0, one, other, 4), k == 0 ? 7 : NONE);
            due(otherwise[k] + ", NUMBERS", x.tells(0, one, other, 2), k == 2 ? 32 : 0);
            due(otherwise[k] + ", DONES", x.tells(0, one, other, 5), k == 3 ? 1 : 0);
            due(otherwise[k] + ", the least DONE", x.tells(0, one, other, 6), k == 3 ? 2 : NONE);
            due(otherwise[k] + ", TEXTS", x.tells(0, one, other, 7), 0);
            due(otherwise[k] + ", DANCERS", x.tells(0, one, other, 8), 0);
            due(otherwise[k] + ", of the other one", x.tells(0, other, one, 5), 0);
        }
    }

    /** Whether one PAYS as a row tells: 1 or 0. */
    private static int paysSo(DanceStillOwed x, int one, int other, int... row) {
        return java.util.Arrays.equals(paidBy(x, one, other, row.length), row) ? 1 : 0;
    }

    /** What one PAYS another one of a DEBT of 0, 1, ..: by what film() answers, each time of one number more. */
    private static int[] paidBy(DanceStillOwed x, int one, int other, int n) {
        int[] row = new int[n];
        for (int k = 0; k < n; k++) {
            row[k] = x.film(3, one, other, k + 1) - x.film(3, one, other, k);
        }
        return row;
    }

    private static void tellsTruly() {
        says(16, "KINDS, NUMBERS, ROUNDS, DONES, TEXTS, DANCERS: as it is where they truly are so");
        int[][] rows = {{0, 1, 2, 2}, {0, 1, 2, 3}, {0, 1, 1, 1}, {0, 0, 0}, {0, 1, 2, 3, 4, 5, 5}};
        for (int turn = 0; turn < 10; turn++) {
            int one = turn % 5;
            int other = (one + 1 + turn / 5) % 5;
            int[] row = turn % 2 == 0 ? paidBy(party(turn), one, other, 7) : rows[turn % rows.length];
            int[] bits = new int[3];
            for (int k = 0; k < 10; k++) {
                bits[0] |= k < 6 ? paysSo(as(turn, one, k), one, other, row) << k : 0;
                DanceStillOwed y = party(turn);
                y.set(2, one, k);
                bits[1] |= paysSo(y, one, other, row) << k;
                DanceStillOwed z = party(turn);
                bits[2] |= k < 5 && k != other ? paysSo(z, k, other, row) << k : 0;
            }
            int[] rounds = {0, NONE};
            int[] dones = {0, NONE};
            for (int k = 99; k >= 0; k--) {
                DanceStillOwed y = party(turn);
                y.set(0, 0, k);
                rounds = paysSo(y, one, other, row) == 1 ? new int[] {rounds[0] + 1, k} : rounds;
                DanceStillOwed z = party(turn);
                z.set(3, one, k);
                dones = paysSo(z, one, other, row) == 1 ? new int[] {dones[0] + 1, k} : dones;
            }
            int texts = 0;
            for (int k = 0; k < party(turn).count(3); k++) {
                DanceStillOwed y = party(turn);
                y.force(k);
                texts |= paysSo(y, one, other, row) << k;
            }
            int[] due = {0, bits[0], bits[1], rounds[0], rounds[1], dones[0], dones[1], texts, bits[2]};
            DanceStillOwed x = party(turn);
            row(x, 0, turn % 3, row);
            for (int what = 1; what < 9; what++) {
                due("turn " + turn + ", what " + what, x.tells(0, one, other, what), due[what]);
            }
        }
    }

    /** The same party, where one of it came as one of another KIND. */
    private static DanceStillOwed as(int turn, int who, int kind) {
        DanceStillOwed was = party(turn);
        DanceStillOwed x = new DanceStillOwed();
        for (int one = 0; one < 5; one++) {
            x.dancer(one == who ? kind : was.told(one, 5), was.told(one, 2));
            x.set(3, one, was.told(one, 3));
        }
        for (int of = 1; of < 44; of++) {
            x.set(4, of, was.told(of, 4));
        }
        x.set(0, 0, was.told(0, 0));
        x.set(1, 0, was.told(0, 1));
        return was.count(5) == 0 ? x : rule(x, HEEDS_ALL);
    }

    private static void filmTruly() {
        says(17, "what one PAYS another one of a DEBT of 0, .., n less 1: debt is that, all else as it is");
        DanceStillOwed x = saidAll(0);
        due("by all NAMES", x.film(1, 0, 1, 30), 29 * 15);
        due("by fewer", x.film(1, 2, 1, 30), sumTo(20) + 9 * 20);
        rule(x, "pays debt-3;wills 1;breath 4;");
        due("by debt", x.film(1, 0, 1, 9), 1 + 2 + 3 + 4 + 5);
        rule(x, "pays owed-3;wills 1;breath 4;");
        due("owed is as it is", x.film(1, 0, 1, 9), sumTo(6) + 6 + 6);
        due("to another one too", x.film(2, 0, 2, 9), sumTo(6) + 6 + 6);
        due("they are alike", x.tells(2, 0, 1, 0), NONE);
    }

    private static int sumTo(int n) {
        return n * (n + 1) / 2;
    }

    private static void drawnTruly() {
        says(18, "DRAWN: all DEBTS would be so, all else as it is: ENDS");
        for (int turn = 0; turn < TURNS; turn++) {
            DanceStillOwed x = party(turn);
            for (int seed = 0; seed < 5; seed++) {
                due("turn " + turn, x.drawn(seed * 77777), drawn(party(turn), seed * 77777).best(7));
            }
        }
    }

    private static DanceStillOwed drawn(DanceStillOwed x, int seed) {
        int z = seed;
        for (int one = 0; one < 5; one++) {
            for (int other = 0; other < 5; other++) {
                if (one != other) {
                    z = z * 1103515245 + 12345;
                    x.set(4, 10 * one + other, z >>> 9 & 3);
                }
            }
        }
        return x;
    }

    private static void chanceTruly() {
        says(19, "IN m seeds, SEED and each 1 more: of these those by which that is k or less: each as DRAWN");
        for (int turn = 0; turn < TURNS; turn++) {
            for (int k = 0; k < 12; k++) {
                int soon = 0;
                for (int seed = 0; seed < 7; seed++) {
                    soon += drawn(party(turn), 500 + seed).best(7) <= k ? 1 : 0;
                }
                DanceStillOwed x = party(turn);
                due("above, turn " + turn, x.chance(500, 7, k, 0), soon == 7 ? 1 : soon);
                due("below, turn " + turn, x.chance(500, 7, k, 1), soon == 0 || soon == 7 ? 1 : 7);
            }
        }
    }

    private static void shares() {
        says(15, "SHARE: what one OWES, of what all OWE");
        DanceStillOwed x = owing(many(4, DANCER), 1, 2, 2, 4, 10, 3, 23, 9);
        long[] above = {1, 1, 1, 0};
        long[] below = {3, 6, 2, 1};
        for (int one = 0; one < 4; one++) {
            due("above, of " + one, x.share(one, 0), above[one]);
            due("below, of " + one, x.share(one, 1), below[one]);
        }
    }

    private static void imageOfEach() {
        says(21, "All that it keeps is as in THE IMAGE, whatever was done since");
        for (int turn = 0; turn < TURNS; turn++) {
            DanceStillOwed x = party(turn);
            x.image();
            x.round();
            x.dance(0, 1);
            x.night();
            x.strike(12);
            x.force(0);
            for (int one = 0; one < 5; one++) {
                x.set(2, one, 9 - one);
                x.set(3, one, 50 + one);
                x.set(4, 10 * one + (one + 1) % 5, 60 + one);
            }
            due("how many DANCERS", x.back(), 5);
            same("turn " + turn, x, party(turn));
        }
    }

    private static void forced() {
        says(8, "A TEXT is THE RULE: each part of it, for all; to be read does not yet make it so");
        DanceStillOwed x = owing(many(2, DANCER), 1, 9, 10, 9);
        text(x, "pays 3;wills 0;breath 7;");
        due("not yet", x.asks(0, 1, 0) * 100 + x.asks(0, 1, 1) * 10 + x.told(0, 6), 114);
        x.force(1);
        for (int one = 0; one < 2; one++) {
            due("now", x.asks(one, 1 - one, 0) * 100 + x.asks(one, 1 - one, 1) * 10 + x.told(one, 6), 307);
        }
    }
}
