/** For each promise what the document says of it, worked out by hand: ordinary inputs, the edges, wrong inputs. */
public final class PromiseTests {
    private static final int NONE = -1, BAD = -2, STATE = -3, FULL = -4;
    private static final long NO = -4611686018427387904L;
    private static final int DANCER = 0, OFFICER = 1, MOTHER = 2, LAMB = 3, WALLFLOWER = 4, BAND = 5;
    private static int passed;
    private static int failed;

    private static void due(String what, long got, long want) {
        if (got == want) {
            passed++;
        } else {
            failed++;
            System.out.println(what + " answered " + got + ", due is " + want);
        }
    }

    /** A room of these kinds, all of one number. */
    private static DanceStillOwed of(int number, int... kinds) {
        DanceStillOwed x = new DanceStillOwed();
        for (int kind : kinds) {
            x.dancer(kind, number);
        }
        return x;
    }

    /** DEBTS: 10 times who owes and to whom, how many, and so on. */
    private static DanceStillOwed owing(DanceStillOwed x, int... debts) {
        for (int k = 0; k < debts.length; k += 2) {
            x.set(4, debts[k], debts[k + 1]);
        }
        return x;
    }

    private static int text(DanceStillOwed x, String s) {
        for (int k = 0; k < s.length(); k++) {
            x.feed(s.charAt(k));
        }
        return x.text();
    }

    /** A text that becomes THE RULE. */
    private static DanceStillOwed rule(DanceStillOwed x, String s) {
        due("force of " + s, x.force(text(x, s)) >= 0 ? 1 : 0, 1);
        return x;
    }

    private static void row(DanceStillOwed x, int sheet, int sort, int... cells) {
        x.sheet(sheet, sort, cells.length);
        for (int k = 0; k < cells.length; k++) {
            x.cell(sheet, k, cells[k]);
        }
    }

    public static void main(String[] args) {
        promise1();
        promise2();
        promise3();
        promise4();
        promise5Pays();
        promise5Will();
        promise5May();
        promise6();
        promise7Texts();
        promise7Faults();
        promise7Open();
        promise8();
        promise9();
        promise10();
        promise11();
        promise12();
        promise13();
        promise14Best();
        promise14Next();
        promise14Soonest();
        promise14Least();
        promise14Ring();
        promise14Ends();
        promise14Keeps();
        promise15();
        promise16();
        promise16Rule();
        promise17();
        promise18();
        promise19();
        promise20();
        promise22();
        promise23();
        promise24();
        promise25();
        promise26();
        promise27();
        System.out.println("PromiseTests: " + passed + " passed, " + failed + " failed");
        if (failed > 0) {
            System.exit(1);
        }
    }

    private static void promise1() {
        DanceStillOwed x = new DanceStillOwed();
        due("1 dancers", x.count(0), 0);
        due("1 all debts", x.count(1), 0);
        due("1 round", x.count(2), 0);
        due("1 texts", x.count(3), 1);
        due("1 tape", x.count(4), 0);
        due("1 rule", x.count(5), 0);
        due("1 night", x.told(0, 1), 0);
        due("1 no image", x.back(), STATE);
        for (int sheet = 0; sheet < 4; sheet++) {
            due("1 sheets are missing", x.cell(sheet, 0, 0), -11);
        }
        due("NONE", DanceStillOwed.NONE, -1);
        due("BAD", DanceStillOwed.BAD, -2);
        due("STATE", DanceStillOwed.STATE, -3);
        due("FULL", DanceStillOwed.FULL, -4);
        due("NO", DanceStillOwed.NO, -(1L << 62));
        DanceStillOwed y = of(1, DANCER);
        due("1 rooms are apart", x.count(0), 0);
        due("1 rooms are apart", y.count(0), 1);
    }

    private static void promise2() {
        DanceStillOwed x = of(3, DANCER, OFFICER);
        due("2 round", x.set(0, -77, 999), 0);
        due("2 round was", x.set(0, 0, 5), 999);
        due("2 round 1000", x.set(0, 0, 1000), BAD);
        due("2 round -1", x.set(0, 0, -1), BAD);
        due("2 night", x.set(1, 1 << 30, 999), 0);
        due("2 night was", x.set(1, 0, 0), 999);
        due("2 night 1000", x.set(1, 0, 1000), BAD);
        due("2 number", x.set(2, 1, 9), 3);
        due("2 number 10", x.set(2, 1, 10), BAD);
        due("2 number -1", x.set(2, 1, -1), BAD);
        due("2 number of none", x.set(2, 2, 1), BAD);
        due("2 number of -1", x.set(2, -1, 1), BAD);
        due("2 number is", x.told(1, 2), 9);
        due("2 done", x.set(3, 0, 99), 0);
        due("2 done 100", x.set(3, 0, 100), BAD);
        due("2 done of none", x.set(3, 2, 1), BAD);
        due("2 done is", x.told(0, 3), 99);
        due("2 debt", x.set(4, 1, 99), 0);
        due("2 debt back", x.set(4, 10, 7), 0);
        due("2 debt was", x.set(4, 1, 1), 99);
        due("2 debt 100", x.set(4, 1, 100), BAD);
        due("2 debt -1", x.set(4, 1, -1), BAD);
        due("2 debt to oneself", x.set(4, 11, 1), BAD);
        due("2 debt to oneself", x.set(4, 0, 0), BAD);
        due("2 debt to none", x.set(4, 2, 1), BAD);
        due("2 debt of none", x.set(4, 20, 1), BAD);
        due("2 debt of -10", x.set(4, -10, 1), BAD);
        due("2 debt of -1", x.set(4, -1, 1), BAD);
        due("2 debt of 100", x.set(4, 100, 1), BAD);
        due("2 what 5", x.set(5, 0, 1), BAD);
        due("2 what -1", x.set(-1, 0, 1), BAD);
        due("2 debts are", x.told(1, 4) * 100 + x.told(10, 4), 107);
        due("2 the round is", x.told(0, 0), 5);
    }

    private static void promise3() {
        DanceStillOwed x = new DanceStillOwed();
        due("3 kind 6", x.dancer(6, 0), BAD);
        due("3 kind -1", x.dancer(-1, 0), BAD);
        due("3 number 10", x.dancer(0, 10), BAD);
        due("3 number -1", x.dancer(0, -1), BAD);
        for (int k = 0; k < 5; k++) {
            due("3 comes", x.dancer(5 - k, 9 - k), k);
            due("3 kind", x.told(k, 5), 5 - k);
            due("3 number", x.told(k, 2), 9 - k);
            due("3 done", x.told(k, 3), 0);
        }
        due("3 one more", x.dancer(0, 0), FULL);
        due("3 one more that is BAD", x.dancer(6, 0), BAD);
        due("3 still", x.count(0), 5);
        due("3 debts", x.count(1), 0);
    }

    private static void promise4() {
        DanceStillOwed x = owing(of(5, DANCER, OFFICER, MOTHER, LAMB, BAND), 1, 3, 2, 4, 10, 5, 23, 6);
        x.set(0, 0, 12);
        x.set(1, 0, 34);
        x.set(3, 2, 8);
        due("4 round", x.told(-9, 0), 12);
        due("4 night", x.told(99, 1), 34);
        due("4 number", x.told(2, 2), 5);
        due("4 done", x.told(2, 3), 8);
        due("4 debt", x.told(23, 4), 6);
        due("4 debt that is not", x.told(32, 4), 0);
        due("4 debt to oneself", x.told(22, 4), BAD);
        due("4 debt to none", x.told(25, 4), BAD);
        due("4 debt of less", x.told(-1, 4), BAD);
        due("4 kind", x.told(3, 5), LAMB);
        due("4 owes", x.told(0, 7), 7);
        due("4 owes nothing", x.told(3, 7), 0);
        due("4 owed", x.told(0, 8), 5);
        due("4 owed", x.told(3, 8), 6);
        due("4 of 5", x.told(5, 2), BAD);
        due("4 of -1", x.told(-1, 8), BAD);
        due("4 what 9", x.told(0, 9), BAD);
        due("4 what -1", x.told(0, -1), BAD);
        int[] breaths = {4, 7, 2, 7, 5};
        for (int k = 0; k < 5; k++) {
            due("4 breath of kind " + x.told(k, 5), x.told(k, 6), breaths[k]);
        }
        due("4 breath of a wallflower", of(0, WALLFLOWER).told(0, 6), 99);
        DanceStillOwed high = rule(of(2, DANCER, OFFICER, MOTHER, LAMB, WALLFLOWER), "pays 1;wills 1;breath 300;");
        int[] bounds = {99, 99, 49, 99, 99};
        for (int k = 0; k < 5; k++) {
            due("4 breath held above, kind " + k, high.told(k, 6), bounds[k]);
        }
        DanceStillOwed low = rule(of(2, DANCER, OFFICER, MOTHER, LAMB, BAND), "pays 1;wills 1;breath -7;");
        int[] lows = {0, 3, 0, 3, 2};
        for (int k = 0; k < 5; k++) {
            due("4 breath held below", low.told(k, 6), lows[k]);
        }
        DanceStillOwed y = rule(owing(of(6, DANCER, DANCER), 1, 9, 10, 2),
            "pays 1;wills 1;breath debt*50+owed*10+done;");
        y.set(3, 0, 3);
        due("4 breath by a debt of 0", y.told(0, 6), 23);
        due("4 breath by what is owed", y.told(1, 6), 90);
    }

    private static void promise5Pays() {
        DanceStillOwed x = owing(of(4, DANCER, OFFICER, MOTHER, LAMB, WALLFLOWER), 1, 9, 12, 9, 23, 9, 34, 9, 40, 9);
        due("5 a dancer pays", x.asks(0, 1, 0), 1);
        due("5 an officer pays", x.asks(1, 2, 0), 2);
        due("5 a mother pays", x.asks(2, 3, 0), 1);
        due("5 a lamb pays, even", x.asks(3, 4, 0), 6);
        due("5 a wallflower pays", x.asks(4, 0, 0), 9);
        x.set(0, 0, 7);
        due("5 a lamb pays, odd", x.asks(3, 4, 0), 2);
        due("5 nothing owed", x.asks(3, 0, 0), 0);
        due("5 nothing owed by a mother", x.asks(2, 0, 0), 0);
        due("5 a band pays", owing(of(4, BAND, DANCER), 1, 9).asks(0, 1, 0), 0);
        x.set(4, 34, 1);
        due("5 no more than owed", x.asks(3, 4, 0), 1);
        DanceStillOwed y = rule(owing(of(3, OFFICER, LAMB, MOTHER, DANCER), 1, 99, 12, 50, 20, 5, 30, 98),
            "pays 0-5;wills 1;breath 4;");
        due("5 v held below", y.asks(0, 1, 0), 0);
        due("5 a lamb by v held below", y.asks(1, 2, 0), 3);
        due("5 a mother heeds no v", y.asks(2, 0, 0), 1);
        rule(y, "pays 200;wills 1;breath 4;");
        due("5 twice v is bounded by the debt", y.asks(0, 1, 0), 99);
        due("5 v held above", y.asks(3, 0, 0), 98);
        rule(y, "pays debt-20*owed+100*(round<2)*0+number+done+night;wills 1;breath 4;");
        y.set(1, 0, 2);
        y.set(3, 3, 4);
        due("5 by the names", y.asks(3, 0, 0), 98);
        y.set(4, 30, 9);
        y.set(4, 3, 1);
        due("5 by the names, less", y.asks(3, 0, 0), 0);
        due("5 two dancers", y.asks(0, 0, 0), BAD);
        due("5 none such", y.asks(0, 4, 0), BAD);
        due("5 none such", y.asks(4, 0, 0), BAD);
        due("5 none such", y.asks(-1, 0, 0), BAD);
        due("5 what 3", y.asks(0, 1, 3), BAD);
        due("5 what -1", y.asks(0, 1, -1), BAD);
    }

    private static void promise5Will() {
        DanceStillOwed x = of(2, DANCER, OFFICER, MOTHER, LAMB, WALLFLOWER);
        due("5 a dancer will", x.asks(0, 1, 1), 1);
        due("5 an officer will", x.asks(1, 0, 1), 1);
        due("5 a mother whom none owes will not", x.asks(2, 0, 1), 0);
        due("5 a wallflower whom nobody owes will", x.asks(4, 0, 1), 1);
        owing(x, 2, 1, 4, 1);
        due("5 a mother whom that one owes will", x.asks(2, 0, 1), 1);
        due("5 but not with another", x.asks(2, 1, 1), 0);
        due("5 a wallflower whom that one owes will", x.asks(4, 0, 1), 1);
        due("5 a wallflower whom another owes will not", x.asks(4, 1, 1), 0);
        due("5 a lamb will", x.asks(3, 0, 1), 1);
        x.set(3, 3, 2);
        due("5 a lamb not if done is number", x.asks(3, 0, 1), 0);
        x.set(3, 3, 3);
        due("5 a lamb behind that", x.asks(3, 0, 1), 1);
        due("5 a band never", of(2, BAND, DANCER).asks(0, 1, 1), 0);
        rule(x, "pays 1;wills 0;breath 4;");
        int[] wills = {0, 1, 0, 1, 0};
        for (int k = 0; k < 5; k++) {
            due("5 by no, kind " + k, x.asks(k, k == 0 ? 1 : 0, 1), wills[k]);
        }
        x.set(4, 4, 0);
        due("5 a wallflower heeds no text if nobody owes her", x.asks(4, 0, 1), 1);
        rule(x, "pays 1;wills 0-3;breath 4;");
        due("5 yes is what is not 0", x.asks(0, 1, 1), 1);
        rule(x, "pays 1;wills 256*256*256*256;breath 4;");
        due("5 0 by wrapping", x.asks(0, 1, 1), 0);
        rule(x, "pays 1;wills debt;breath 4;");
        x.set(4, 1, 5);
        due("5 by the debt to that one", x.asks(0, 1, 1), 1);
        due("5 by no debt to that one", x.asks(0, 3, 1), 0);
    }

    private static void promise5May() {
        DanceStillOwed x = owing(of(9, DANCER, DANCER, BAND), 1, 3, 20, 1);
        due("5 may", x.asks(0, 1, 2), 1);
        due("5 may, told from the other", x.asks(1, 0, 2), 1);
        due("5 with no debt", x.asks(1, 2, 2), 0);
        due("5 a band will not", x.asks(0, 2, 2), 0);
        due("5 nor told from the band", x.asks(2, 0, 2), 0);
        x.set(3, 0, 3);
        due("5 breath left", x.asks(0, 1, 2), 1);
        x.set(3, 0, 4);
        due("5 no breath", x.asks(0, 1, 2), 0);
        x.set(3, 0, 0);
        x.set(3, 1, 4);
        due("5 no breath of the other", x.asks(0, 1, 2), 0);
    }

    private static void promise6() {
        DanceStillOwed x = new DanceStillOwed();
        due("6 a byte", x.feed(0), 1);
        due("6 a byte", x.feed(255), 2);
        due("6 256", x.feed(256), BAD);
        due("6 -1", x.feed(-1), BAD);
        for (int k = 3; k <= 160; k++) {
            due("6 more", x.feed(32), k);
        }
        due("6 full", x.feed(32), FULL);
        due("6 BAD ahead of FULL", x.feed(256), BAD);
        due("6 has", x.count(4), 160);
    }

    /** The value of an E, by what a dancer who OWES 90 PAYS. */
    private static void value(String e, int want) {
        DanceStillOwed x = owing(of(7, DANCER, DANCER), 1, 90, 10, 5);
        x.set(0, 0, 11);
        x.set(1, 0, 13);
        x.set(3, 0, 2);
        due("7 " + e, text(x, "pays " + e + ";wills 1;breath 9;"), 1);
        x.force(1);
        due("7 value of " + e, x.asks(0, 1, 0), want);
    }

    private static void promise7Texts() {
        value("debt", 90);
        value("owed", 5);
        value("number", 7);
        value("round", 11);
        value("done", 2);
        value("night", 13);
        value("2+3*4", 14);
        value("(2+3)*4", 20);
        value("20-3-4", 13);
        value("20-(3-4)", 21);
        value("- 3 + 10", 7);
        value("-3*-4", 12);
        value("2 - -3", 5);
        value("1<2", 1);
        value("2<2", 0);
        value("2=2", 1);
        value("2=3", 0);
        value("7 or 0", 1);
        value("0 or 0", 0);
        value("7 and 5", 1);
        value("7 and 0", 0);
        value("not 7", 0);
        value("not 0", 1);
        value("not not 7", 1);
        value("5", 5);
        value("0 and 0 or 1", 1);
        value("1 or 0 and 0", 1);
        value("not 0 and 0", 0);
        value("not 1 = 2", 1);
        value("1+1<3", 1);
        value("3<2+2", 1);
        value("0012", 12);
        value("9999-9990", 9);
        value("256*256*256*256+7", 7);
        value("0-256*256*256*128-256*256*256*128-1<0", 1);
        value("256*256*256*128-1<0", 0);
        value("-(256*256*256*128)<0", 1);
        value("(5)", 5);
        value("1or 0", 1);
        DanceStillOwed x = new DanceStillOwed();
        due("7 without blanks", text(x, "pays1;wills1;breath1;"), 1);
        due("7 with many", text(x, "\n pays\n1 ;\nwills 1 ; breath 1 ;\n "), 2);
        due("7 the tape is empty", x.count(4), 0);
        due("7 a fault", text(x, "pays;"), -104);
        due("7 the tape is empty by a fault", x.count(4), 0);
        due("7 a fault is no text", x.count(3), 3);
        due("7 more", text(x, "pays 1;wills 1;breath 1;"), 3);
        due("7 more", text(x, "pays 1;wills 1;breath 1;"), 4);
        due("7 more", text(x, "pays 1;wills 1;breath 1;"), 5);
        due("7 full", text(x, "pay"), FULL);
        due("7 the tape stays", x.count(4), 3);
        due("7 full with what would be one", text(x, "s 1;wills 1;breath 1;"), FULL);
        due("7 the tape stays", x.count(4), 24);
        due("7 texts", x.count(3), 6);
        StringBuilder s = new StringBuilder("pays 1");
        while (s.length() < 160 - 20) {
            s.append("+1");
        }
        DanceStillOwed y = owing(of(0, DANCER, DANCER), 1, 99);
        due("7 as long as can be", text(y, s + ";wills 1;breath 4;"), 1);
        y.force(1);
        due("7 and its value", y.asks(0, 1, 0), 68);
        for (int k = 2; k < 4; k++) {
            due("7 as long as can be, again", text(y, s + "+0" + ";wills " + k % 2 + ";breath 4;"), k);
        }
        for (int k = 2; k < 4; k++) {
            y.force(k);
            due("7 each keeps its own", y.asks(0, 1, 0) * 10 + y.asks(0, 1, 1), 680 + k % 2);
        }
    }

    private static void fault(String s, int place) {
        DanceStillOwed x = new DanceStillOwed();
        due("7 fault of \"" + s + "\"", text(x, s), -100 - place);
    }

    private static void promise7Faults() {
        fault("", 0);
        fault("   ", 3);
        fault(" 1", 1);
        fault("wills 1;", 0);
        fault("Pays 1;", 0);
        fault("payss 1;", 0);
        fault("pays", 4);
        fault("pays  ", 6);
        fault("pays 1", 6);
        fault("pays 1 1;", 7);
        fault("pays 1;pays 1;", 7);
        fault("pays 1;wills 1;breath 1", 23);
        fault("pays 1;wills 1;breath 1;;", 24);
        fault("pays 1;wills 1;breath 1; pays", 25);
        fault("pays 12345;", 5);
        fault("pays 1+ 00001;", 8);
        fault("pays 1+debts;", 7);
        fault("pays pays;", 5);
        fault("pays 1\t;", 6);
        fault("pays 1$", 6);
        fault("pays " + (char) 200 + ";", 5);
        fault("pays );", 5);
        fault("pays ();", 6);
        fault("pays (1;", 7);
        fault("pays 1);", 6);
        fault("pays (1));", 8);
        fault("pays 1 < 2 < 3;", 11);
        fault("pays 1 = 2 = 3;", 11);
        fault("pays 1 < = 3;", 9);
        fault("pays 1 + not 1;", 9);
        fault("pays - not 1;", 7);
        fault("pays 1 = not 1;", 9);
        fault("pays not;", 8);
        fault("pays or 1;", 5);
        fault("pays 1 or;", 9);
        fault("pays 1 and or 1;", 11);
        fault("pays 1 not 1;", 7);
        fault("pays * 1;", 5);
        fault("pays + 1;", 5);
        fault("pays 1 ** 1;", 8);
        fault("pays 1 debt;", 7);
        fault("pays 1(2);", 6);
        fault("pays 1;wills 1;breath 12345", 22);
        fault("pays ) 12345 $", 5);
    }

    private static void promise7Open() {
        DanceStillOwed x = new DanceStillOwed();
        due("7 five (", text(x, "pays (((((1)))))+(((((1)))));wills 1;breath 1;"), 1);
        due("7 five not", text(x, "pays not not not not not 1 and not not not not not 1;wills 1;breath 1;"), 2);
        due("7 five -", text(x, "pays -----1*-----1+-----1;wills 1;breath 1;"), 3);
        due("7 a mix of five", text(x, "pays not -(-(1))=-(-1);wills 1;breath 1;"), 4);
        due("7 a - between is none", text(x, "pays (((((1-1-1)))));wills 1;breath 1;"), 5);
        fault("pays ((((((1))))));", 10);
        fault("pays not not not not not not 1;", 25);
        fault("pays ------1;", 10);
        fault("pays not not not not not -1;", 25);
        fault("pays not not not not not 1 = -1;", 29);
        fault("pays not not not not not 1 = (1);", 29);
        fault("pays -(-(-(1)));", 11 - 1);
        fault("pays (not(not(-1)));", 14);
        fault("pays (not(not-1));wills 1;breath 1", 34);
        fault("pays (not(not((1))));", 14);
        fault("pays (((((not 1)))));", 10);
        fault("pays (((((-1)))));", 10);
    }

    private static void promise8() {
        DanceStillOwed x = owing(of(0, DANCER, DANCER), 1, 9);
        text(x, "pays 3;wills 1;breath 4;");
        due("8 which was", x.force(1), 0);
        due("8 pays by it", x.asks(0, 1, 0), 3);
        due("8 which was", x.force(0), 1);
        due("8 pays by it", x.asks(0, 1, 0), 1);
        due("8 none such", x.force(2), BAD);
        due("8 none such", x.force(-1), BAD);
        due("8 still", x.count(5), 0);
    }

    private static void promise9() {
        DanceStillOwed x = owing(of(4, OFFICER, DANCER, MOTHER), 1, 5, 10, 1);
        due("9 paid by both", x.dance(1, 0), 3);
        due("9 debt", x.told(1, 4), 3);
        due("9 debt back", x.told(10, 4), 0);
        due("9 done", x.told(0, 3), 1);
        due("9 done", x.told(1, 3), 1);
        due("9 not done", x.told(2, 3), 0);
        due("9 no round", x.told(0, 0), 0);
        due("9 with no debt", x.dance(0, 2), STATE);
        due("9 one and the same", x.dance(1, 1), BAD);
        due("9 none such", x.dance(1, 3), BAD);
        due("9 none such", x.dance(-1, 0), BAD);
        x.set(3, 1, 4);
        due("9 no breath", x.dance(0, 1), STATE);
        due("9 nothing happened", x.told(1, 4) * 100 + x.told(1, 3) * 10 + x.told(0, 3), 341);
        DanceStillOwed y = rule(owing(of(9, DANCER, DANCER), 1, 1, 10, 9), "pays owed;wills 1;breath 4;");
        due("9 both told ahead", y.dance(0, 1), 2);
        due("9 the other by what was owed ahead", y.told(10, 4), 8);
        DanceStillOwed z = owing(of(9, WALLFLOWER, WALLFLOWER), 1, 1, 10, 9);
        z.set(3, 0, 98);
        due("9 at the bound", z.dance(0, 1), 10);
        due("9 done 99", z.told(0, 3), 99);
    }

    private static void promise10() {
        DanceStillOwed x = owing(of(4, DANCER, DANCER, DANCER, DANCER, DANCER), 2, 2, 13, 2, 23, 1, 4, 1, 40, 1);
        due("10 paid", x.round(), 2);
        due("10 the first two", x.told(2, 4), 1);
        due("10 the second two", x.told(13, 4), 1);
        due("10 who had danced", x.told(23, 4), 1);
        due("10 who had danced", x.told(4, 4), 1);
        due("10 round is 1 more", x.told(0, 0), 1);
        due("10 done", x.told(0, 3) + x.told(1, 3) + x.told(2, 3) + x.told(3, 3), 4);
        due("10 who sat", x.told(4, 3), 0);
        due("10 the next", x.round(), 2);
        due("10 the third", x.round(), 3);
        due("10 the last", x.round(), 0);
        x.set(0, 0, 998);
        due("10 at 998", x.round(), 0);
        due("10 at 999", x.round(), STATE);
        due("10 it stays", x.told(0, 0), 999);
        due("10 nobody there", new DanceStillOwed().round(), 0);
    }

    private static void promise11() {
        DanceStillOwed x = owing(of(4, DANCER, DANCER, DANCER), 1, 3);
        x.round();
        x.set(3, 2, 7);
        due("11 how often", x.night(), 9);
        due("11 night", x.told(0, 1), 1);
        due("11 done is 0", x.told(0, 3) + x.told(1, 3) + x.told(2, 3), 0);
        due("11 round stays", x.told(0, 0), 1);
        due("11 debts stay", x.told(1, 4), 2);
        x.set(1, 0, 998);
        due("11 at 998", x.night(), 0);
        x.set(3, 1, 5);
        due("11 at 999", x.night(), STATE);
        due("11 it stays", x.told(0, 1) * 10 + x.told(1, 3), 9995);
    }

    private static void promise12() {
        DanceStillOwed x = owing(of(0, DANCER, DANCER, DANCER, DANCER), 1, 5, 12, 3, 20, 4, 10, 2, 23, 9);
        due("12 a ring of three", x.strike(231), 3);
        due("12 off each", x.told(1, 4) * 100 + x.told(12, 4) * 10 + x.told(20, 4), 201);
        due("12 not off others", x.told(10, 4) * 10 + x.told(23, 4), 29);
        due("12 it is none any more", x.strike(123), STATE);
        due("12 the other way", x.strike(321), STATE);
        due("12 a ring of two", x.strike(12), 2);
        due("12 off both", x.told(1, 4) + x.told(10, 4), 0);
        due("12 nobody danced", x.told(0, 3), 0);
        int[] wrong = {0, 1, 4, 11, 121, 15, 51, 10, 102, 19, 12341, 123451, -12, -1,
            Integer.MIN_VALUE, Integer.MAX_VALUE};
        for (int digits : wrong) {
            due("12 digits " + digits, x.strike(digits), BAD);
        }
        DanceStillOwed y = owing(of(0, DANCER, DANCER, DANCER, DANCER, DANCER), 4, 99, 43, 99, 32, 99, 21, 99, 10, 99);
        due("12 all five", y.strike(15432), 99);
        due("12 nothing is left", y.count(1), 0);
        due("12 six", y.strike(123456), BAD);
        due("12 digit 6", y.strike(16), BAD);
    }

    private static void promise13() {
        DanceStillOwed x = owing(of(4, DANCER, DANCER, DANCER), 1, 3, 12, 2);
        due("13 no rounds", x.run(0, 0, 0, 0), 5);
        due("13 one", x.run(1, 9, 9, 0), 4);
        due("13 owed behind none", x.run(0, 0, 0, 1), 6);
        due("13 owed behind three", x.run(3, 0, 0, 1), 4);
        due("13 what one owes", x.run(2, 0, 1, 2), 1);
        due("13 what the other owes", x.run(4, 1, 2, 2), 1);
        due("13 breath is out", x.run(40, 1, 2, 0), 1);
        due("13 in thought", x.told(0, 0) * 100 + x.count(1), 5);
        due("13 n 41", x.run(41, 0, 1, 0), BAD);
        due("13 n -1", x.run(-1, 0, 1, 0), BAD);
        due("13 what 3", x.run(1, 0, 1, 3), BAD);
        due("13 what -1", x.run(1, 0, 1, -1), BAD);
        due("13 one and the same", x.run(1, 1, 1, 2), BAD);
        due("13 none such", x.run(1, 1, 3, 2), BAD);
        DanceStillOwed y = rule(owing(of(0, DANCER, DANCER), 1, 9), "pays 999<round;wills 1;breath 99;");
        y.set(0, 0, 998);
        due("13 behind 999", y.run(4, 0, 1, 2), 7);
    }

    private static void promise14Best() {
        DanceStillOwed x = owing(of(0, WALLFLOWER, OFFICER, OFFICER, OFFICER), 1, 1, 2, 9, 3, 5, 12, 2);
        due("14 best of one two or two", x.best(0), 2);
        due("14 paid by it", x.best(1), 9);
        owing(x, 13, 1);
        due("14 best is two twos", x.best(0), 2 | 1 << 5);
        due("14 paid by it", x.best(1), 10);
        due("14 paid by the next round", x.best(3), 1);
        DanceStillOwed y = owing(of(0, DANCER, DANCER, DANCER, DANCER), 1, 1, 23, 1, 2, 1, 13, 1, 3, 1, 12, 1);
        due("14 of like ones the first by bits", y.best(0), 4 | 16);
        due("14 what the first would pay", y.best(3), 2);
        rule(y, "pays 0;wills 1;breath 9;");
        due("14 nothing paid", y.best(0), 0);
        due("14 nothing paid", y.best(1), 0);
        due("14 what 9", y.best(9), BAD);
        due("14 what -1", y.best(-1), BAD);
        due("14 empty", new DanceStillOwed().best(0), 0);
        int[] pairs = {1, 2, 3, 4, 12, 13, 14, 23, 24, 34};
        for (int k = 0; k < pairs.length; k++) {
            due("14 bit " + k, owing(of(0, DANCER, DANCER, DANCER, DANCER, DANCER), pairs[k], 1).best(0), 1 << k);
            for (int j = k + 1; j < pairs.length; j++) {
                DanceStillOwed z = owing(of(0, DANCER, DANCER, DANCER, DANCER, DANCER), pairs[k], 1, pairs[j], 1);
                boolean apart = pairs[k] / 10 != pairs[j] / 10 && pairs[k] / 10 != pairs[j] % 10
                    && pairs[k] % 10 != pairs[j] / 10 && pairs[k] % 10 != pairs[j] % 10;
                due("14 bits " + k + " " + j, z.best(0), apart ? 1 << k | 1 << j : 1 << k);
            }
        }
    }

    private static void promise14Next() {
        DanceStillOwed x = owing(of(0, DANCER, DANCER, DANCER, DANCER, DANCER), 1, 1, 12, 1, 2, 1);
        due("14 who sits", x.best(2), 4 | 8 | 16);
        due("14 the next pays", x.best(3), 1);
        due("14 in thought", x.told(0, 0) + x.told(0, 3), 0);
        due("14 nobody sits where nobody is", new DanceStillOwed().best(2), 0);
        due("14 one sits", of(0, DANCER).best(2), 1);
        DanceStillOwed y = owing(of(0, DANCER, DANCER), 1, 1);
        y.set(0, 0, 999);
        due("14 at 999 too", y.best(3), 1);
    }

    private static void promise14Soonest() {
        due("14 soonest 0", of(0, DANCER, DANCER).best(4), 0);
        due("14 soonest, empty", new DanceStillOwed().best(4), 0);
        due("14 soonest 3", owing(of(0, DANCER, DANCER), 1, 3).best(4), 3);
        due("14 not by 3", owing(of(0, DANCER, DANCER), 1, 4).best(4), NONE);
        due("14 soonest 2", owing(of(0, OFFICER, DANCER), 1, 4).best(4), 2);
        due("14 a path in 2", owing(of(0, DANCER, DANCER, DANCER, DANCER), 1, 1, 12, 1, 23, 1).best(4), 2);
        due("14 a ring of five in 3",
            owing(of(0, DANCER, DANCER, DANCER, DANCER, DANCER), 1, 1, 12, 1, 23, 1, 34, 1, 40, 1).best(4), 3);
        due("14 four each with each in 3",
            owing(of(0, DANCER, DANCER, DANCER, DANCER), 1, 1, 2, 1, 3, 1, 12, 1, 13, 1, 23, 1).best(4), 3);
        due("14 one with four others",
            owing(of(0, DANCER, DANCER, DANCER, DANCER, DANCER), 1, 1, 2, 1, 3, 1, 4, 1).best(4), NONE);
        DanceStillOwed breath = owing(of(0, DANCER, DANCER), 1, 3);
        breath.set(3, 1, 2);
        due("14 breath is out", breath.best(4), NONE);
        DanceStillOwed waits = rule(owing(of(0, DANCER, DANCER), 1, 1), "pays 1;wills round=2;breath 4;");
        due("14 by sets of none too", waits.best(4), 3);
        DanceStillOwed behind = rule(owing(of(0, DANCER, DANCER), 1, 1), "pays 1;wills 999<round;breath 4;");
        behind.set(0, 0, 998);
        due("14 round may pass 999", behind.best(4), 3);
        DanceStillOwed mother = owing(of(0, MOTHER, OFFICER), 1, 2, 10, 2);
        due("14 told as all is then", mother.best(4), NONE);
        DanceStillOwed greedy = owing(of(0, DANCER, DANCER, DANCER, DANCER), 1, 1, 2, 1, 13, 1, 23, 0);
        due("14 other sets than a round's", greedy.best(4), 2);
    }

    private static void promise14Least() {
        DanceStillOwed x = owing(of(0, DANCER, DANCER, DANCER), 1, 5, 12, 3, 20, 3);
        due("14 least", x.best(5), 2);
        due("14 least of none", of(0, DANCER).best(5), 0);
        due("14 least of one debt", owing(of(0, DANCER, DANCER), 1, 99).best(5), 99);
        due("14 least passed on", owing(of(0, DANCER, DANCER, DANCER), 1, 7, 12, 7).best(5), 7);
        due("14 least of two who owe", owing(of(0, DANCER, DANCER, DANCER), 1, 7, 21, 4).best(5), 11);
    }

    private static void promise14Ring() {
        DanceStillOwed x = owing(of(0, DANCER, DANCER, DANCER, DANCER, DANCER), 12, 1, 21, 1);
        due("14 a ring of two", x.best(6), 2);
        owing(x, 23, 1, 34, 1, 41, 1);
        due("14 a ring of four", x.best(6), 4);
        owing(x, 40, 1, 1, 1);
        due("14 a ring of five", x.best(6), 5);
        owing(x, 34, 0);
        due("14 one is broken", x.best(6), 2);
        owing(x, 21, 0);
        due("14 all are broken", x.best(6), 0);
        due("14 two rings of one length", owing(of(0, DANCER, DANCER, DANCER, DANCER, DANCER),
            2, 1, 24, 1, 40, 1, 13, 1, 31, 1).best(6), 3);
        due("14 a ring is of two at least", owing(of(0, DANCER, DANCER), 1, 1).best(6), 0);
    }

    private static void promise14Ends() {
        due("14 ends at once", of(0, DANCER, DANCER).best(7), 0);
        due("14 ends behind 3", owing(of(0, DANCER, DANCER), 1, 3).best(7), 3);
        due("14 ends by breath", owing(of(0, DANCER, DANCER), 1, 9).best(7), 4);
        DanceStillOwed x = rule(owing(of(0, DANCER, DANCER), 1, 60), "pays 1;wills 1;breath 99;");
        due("14 ends behind 60", x.best(7), 60);
        owing(x, 1, 61);
        due("14 does not by 60", x.best(7), NONE);
        due("14 in thought", x.told(0, 0) * 100 + x.told(1, 4), 61);
        DanceStillOwed y = rule(owing(of(0, DANCER, DANCER), 1, 9), "pays not round=2;wills 1;breath 99;");
        due("14 ends by the first that pays nothing", y.best(7), 2);
    }

    private static void promise14Keeps() {
        due("14 keeps none", of(0, DANCER, DANCER).best(8), NONE);
        due("14 keeps, empty", new DanceStillOwed().best(8), NONE);
        DanceStillOwed x = owing(of(0, DANCER, DANCER, DANCER), 1, 3, 2, 2, 12, 1);
        due("14 of like ones the first", x.best(8), 1);
        owing(x, 12, 2);
        due("14 who is owed most", x.best(8), 2);
        due("14 the last", owing(of(0, DANCER, DANCER, DANCER), 2, 1).best(8), 2);
    }

    private static void promise15() {
        DanceStillOwed x = owing(of(0, DANCER, DANCER, DANCER), 1, 4, 2, 2, 12, 6, 20, 6);
        due("15 above", x.share(0, 0), 1);
        due("15 below", x.share(0, 1), 3);
        owing(x, 20, 0);
        due("15 above", x.share(1, 0), 1);
        due("15 below", x.share(1, 1), 2);
        due("15 none of it", x.share(2, 0), 0);
        due("15 none of it", x.share(2, 1), 1);
        due("15 all of it", owing(of(0, DANCER, DANCER), 1, 7).share(0, 1), 1);
        due("15 none such", x.share(3, 0), NO);
        due("15 none such", x.share(-1, 0), NO);
        due("15 part 2", x.share(0, 2), NO);
        due("15 part -1", x.share(0, -1), NO);
        due("15 nobody owes", of(0, DANCER).share(0, 0), NO);
    }

    private static void promise16() {
        DanceStillOwed x = of(3, DANCER, LAMB, OFFICER, WALLFLOWER);
        row(x, 0, 2, 0, 1, 2, 2, 2);
        due("16 a dancer: the first otherwise", x.tells(0, 0, 1, 0), 2);
        due("16 an officer: none", x.tells(0, 2, 1, 0), NONE);
        due("16 kinds at an even round", x.tells(0, 2, 1, 1), 1 << OFFICER);
        due("16 numbers of no matter", x.tells(0, 2, 1, 2), 1023);
        due("16 rounds of no matter", x.tells(0, 2, 1, 3), 100);
        due("16 dancers to that one", x.tells(0, 2, 1, 8), 4);
        due("16 not that other one", x.tells(0, 0, 2, 8), 0);
        due("16 a lamb: the first otherwise", x.tells(0, 1, 0, 0), 3);
        due("16 a lamb by its number", x.tells(0, 1, 0, 2), 1);
        due("16 a lamb by odd rounds", x.tells(0, 1, 0, 3), 50);
        due("16 the least round", x.tells(0, 1, 0, 4), 1);
        due("16 dones of none", x.tells(0, 1, 0, 5), 0);
        due("16 the least of none", x.tells(0, 1, 0, 6), NONE);
        due("16 rounds of none", x.tells(0, 0, 1, 3), 0);
        due("16 the least round of none", x.tells(0, 0, 1, 4), NONE);
        due("16 texts", x.tells(0, 2, 1, 7), 1);
        due("16 no texts", x.tells(0, 0, 1, 7), 0);
        x.set(0, 0, 5);
        due("16 kinds at an odd round", x.tells(0, 2, 1, 1), 1 << OFFICER | 1 << LAMB);
        due("16 dancers at an odd round", x.tells(0, 2, 0, 8), 2 | 4);
        row(x, 1, 0, 0, 1);
        due("16 kinds", x.tells(1, 0, 1, 1), 31);
        row(x, 1, 1, 0, 0);
        due("16 a band", x.tells(1, 0, 1, 1), 32);
        row(x, 1, 1, 0, 1, 2, 3);
        due("16 a wallflower", x.tells(1, 0, 1, 1), 1 << WALLFLOWER);
        row(x, 1, 1, 1);
        due("16 nobody pays 1 of 0", x.tells(1, 0, 1, 0), 0);
        due("16 nothing changed", x.told(0, 0) * 100 + x.told(0, 5) * 10 + x.told(0, 2), 503);
        due("16 no sheet", x.tells(4, 0, 1, 0), BAD);
        due("16 no sheet", x.tells(-1, 0, 1, 0), BAD);
        due("16 what 9", x.tells(0, 0, 1, 9), BAD);
        due("16 what -1", x.tells(0, 0, 1, -1), BAD);
        due("16 one and the same", x.tells(0, 1, 1, 0), BAD);
        due("16 none such", x.tells(0, 1, 4, 0), BAD);
        due("16 missing", x.tells(3, 0, 1, 0), -11);
        due("16 missing, BAD is ahead", x.tells(3, 0, 0, 0), BAD);
        due("16 missing, what is ahead", x.tells(3, 0, 1, 9), BAD);
        x.sheet(3, 0, 30);
        due("16 30 numbers", x.tells(3, 0, 1, 0), 1);
        x.sheet(3, 0, 31);
        due("16 31 numbers", x.tells(3, 0, 1, 0), BAD);
    }

    private static void promise16Rule() {
        DanceStillOwed x = owing(of(3, DANCER, DANCER, DANCER), 10, 2, 20, 4);
        text(x, "pays debt < 3;wills 1;breath 4;");
        text(x, "pays 1;wills 0;breath 0;");
        text(x, "pays owed-5;wills 1;breath 4;");
        row(x, 0, 1, 0, 1, 1, 0);
        due("16 texts by which it is so", x.tells(0, 0, 1, 7), 2);
        row(x, 0, 1, 0, 1, 1, 1);
        due("16 texts by which it is so", x.tells(0, 0, 1, 7), 1 | 4 | 8);
        due("16 texts for one who is owed less", x.tells(0, 1, 0, 7), 1 | 4);
        rule(x, "pays (done=7)+(done=9)+(20<round)*(round<24);wills 1;breath 9;");
        row(x, 0, 0, 0, 1, 1, 1);
        due("16 dones", x.tells(0, 0, 1, 5), 2);
        due("16 the least done", x.tells(0, 0, 1, 6), 7);
        due("16 rounds", x.tells(0, 0, 1, 3), 3);
        due("16 the least round", x.tells(0, 0, 1, 4), 21);
        rule(x, "pays done=99 or round=99 or number=9;wills 1;breath 9;");
        due("16 the last done", x.tells(0, 0, 1, 6), 99);
        due("16 the last round", x.tells(0, 0, 1, 4), 99);
        due("16 the last number", x.tells(0, 0, 1, 2), 512);
        due("16 the rule stays", x.count(5), 5);
    }

    private static void promise17() {
        DanceStillOwed x = of(2, LAMB, WALLFLOWER);
        due("17 all, together", x.film(0, 0, 1, 8), 1 + 2 + 3 + 4 + 4 + 4 + 4);
        due("17 as told", x.tells(0, 0, 1, 0), NONE);
        due("17 it is of bytes", x.room(0, 1, 0, 0), -13);
        due("17 it is of bytes", x.room(0, 0, 0, 0), 0);
        due("17 of n", x.cell(0, 7, 0), 1);
        due("17 of no more", x.cell(0, 8, 0), -12);
        due("17 30", x.film(1, 1, 0, 30), 29 * 15);
        due("17 31", x.film(1, 1, 0, 31), BAD);
        due("17 -1", x.film(1, 1, 0, -1), BAD);
        due("17 it is as it was", x.cell(1, 29, 0), 1);
        due("17 0", x.film(1, 0, 1, 0), 0);
        due("17 an empty row is a row", x.cell(1, 0, 0), -12);
        due("17 no sheet", x.film(4, 0, 1, 1), BAD);
        due("17 one and the same", x.film(0, 1, 1, 1), BAD);
        due("17 none such", x.film(0, 0, 2, 1), BAD);
        due("17 nothing danced", x.told(0, 3) + x.told(0, 0) + x.count(1), 0);
    }

    private static int endsByHand(int kinds, int seed, int n) {
        DanceStillOwed x = new DanceStillOwed();
        for (int k = 0; k < n; k++) {
            x.dancer(kinds, 3);
        }
        int z = seed;
        for (int one = 0; one < n; one++) {
            for (int to = 0; to < n; to++) {
                if (to != one) {
                    z = (int) (z * 1103515245L + 12345L);
                    x.set(4, 10 * one + to, (int) ((z & 0xFFFFFFFFL) / 512 % 4));
                }
            }
        }
        return x.best(7);
    }

    private static void promise18() {
        for (int seed = -40; seed < 40; seed++) {
            int n = 2 + (seed & 3);
            DanceStillOwed x = of(3, DANCER, DANCER, DANCER, DANCER, DANCER);
            DanceStillOwed y = new DanceStillOwed();
            for (int k = 0; k < n; k++) {
                y.dancer(OFFICER, 3);
            }
            due("18 drawn " + seed, x.drawn(seed * 54321), endsByHand(DANCER, seed * 54321, 5));
            due("18 drawn " + seed, owing(y, 1, 9).drawn(seed), endsByHand(OFFICER, seed, n));
            due("18 in thought", y.count(1), 9);
        }
        due("18 nobody", new DanceStillOwed().drawn(5), 0);
        DanceStillOwed x = rule(of(0, WALLFLOWER, BAND), "pays 1;wills 1;breath 4;");
        due("18 nothing can be paid", x.drawn(3), 0);
    }

    private static void promise19() {
        int[] soon = new int[62];
        for (int j = 0; j < 10; j++) {
            int ends = of(3, DANCER, DANCER, DANCER, DANCER, DANCER).drawn(Integer.MAX_VALUE - 4 + j);
            for (int k = 0; k < 62; k++) {
                soon[k] += ends != NONE && ends <= k || k == 61 ? 1 : 0;
            }
        }
        DanceStillOwed x = of(3, DANCER, DANCER, DANCER, DANCER, DANCER);
        for (int k = 0; k < 62; k++) {
            long above = x.chance(Integer.MAX_VALUE - 4, 10, k, 0);
            long below = x.chance(Integer.MAX_VALUE - 4, 10, k, 1);
            due("19 chance of " + k, above * 10, soon[k] * below);
            long both = soon[k] == 0 ? 10 : soon[k] % 5 == 0 ? soon[k] % 2 == 0 ? 10 : 5 : soon[k] % 2 == 0 ? 2 : 1;
            due("19 in lowest terms", below, 10 / both);
        }
        due("19 never", of(0, DANCER, DANCER).chance(1, 1, 61, 0), 1);
        due("19 nobody", new DanceStillOwed().chance(9, 10, 0, 1), 1);
        due("19 m 0", x.chance(0, 0, 0, 0), NO);
        due("19 m 11", x.chance(0, 11, 0, 0), NO);
        due("19 k -1", x.chance(0, 1, -1, 0), NO);
        due("19 k 62", x.chance(0, 1, 62, 0), NO);
        due("19 part 2", x.chance(0, 1, 0, 2), NO);
        due("19 part -1", x.chance(0, 1, 0, -1), NO);
        due("19 in thought", x.count(1), 0);
    }

    /** Promises 20 and 21. */
    private static void promise20() {
        DanceStillOwed x = owing(of(3, DANCER, OFFICER), 1, 5, 10, 6);
        due("21 none", x.back(), STATE);
        text(x, "pays 2;wills 1;breath 4;");
        x.set(0, 0, 7);
        x.set(1, 0, 8);
        x.set(3, 1, 2);
        due("20 how many", x.image(), 2);
        x.force(1);
        x.round();
        x.night();
        x.set(2, 0, 9);
        x.dancer(LAMB, 4);
        owing(x, 2, 9, 20, 9, 21, 8);
        x.set(3, 2, 3);
        row(x, 2, 0, 1, 2);
        x.feed(32);
        text(x, "pays 3;wills 1;breath 4;");
        x.feed(32);
        due("21 how many", x.back(), 2);
        due("21 round", x.told(0, 0), 7);
        due("21 night", x.told(0, 1), 8);
        due("21 number", x.told(0, 2), 3);
        due("21 done", x.told(0, 3) * 10 + x.told(1, 3), 2);
        due("21 debts", x.told(1, 4) * 10 + x.told(10, 4), 56);
        due("21 the rule", x.count(5), 0);
        due("21 who came since goes", x.told(2, 5), BAD);
        due("21 all debts", x.count(1), 11);
        due("21 texts stay", x.count(3), 3);
        due("21 the tape stays", x.count(4), 1);
        due("21 sheets stay", x.cell(2, 1, 0), 1);
        due("21 another comes", x.dancer(BAND, 1), 2);
        due("21 with no debts", x.told(2, 4) + x.told(20, 4) + x.told(21, 4), 0);
        due("21 and has not danced", x.told(2, 3), 0);
        due("21 of its own kind", x.told(2, 5), BAND);
        owing(x, 1, 1);
        due("21 again", x.back(), 2);
        due("21 debts again", x.told(1, 4), 5);
        owing(x, 1, 2);
        due("20 anew", x.image(), 2);
        owing(x, 1, 3);
        x.back();
        due("21 as in the last", x.told(1, 4), 2);
    }

    private static void promise22() {
        DanceStillOwed x = owing(of(3, DANCER, OFFICER, BAND), 1, 5, 21, 6);
        text(x, "pays 2;wills 1;breath 4;");
        x.force(1);
        x.feed(1);
        x.feed(2);
        x.set(0, 0, 44);
        int[] counts = {3, 11, 44, 2, 2, 1};
        for (int k = 0; k < 6; k++) {
            due("22 count " + k, x.count(k), counts[k]);
        }
        due("22 what 6", x.count(6), BAD);
        due("22 what -1", x.count(-1), BAD);
    }

    private static void promise23() {
        DanceStillOwed x = of(0, DANCER, DANCER);
        due("23 bytes", x.sheet(0, 0, 40), 1);
        due("23 the last", x.cell(0, 39, 1), 1);
        due("23 behind it", x.cell(0, 40, 1), -12);
        due("23 41", x.sheet(0, 0, 41), BAD);
        due("23 it stays", x.cell(0, 39, 1), 1);
        due("23 below 0", x.sheet(0, 0, -1), -14);
        due("23 far below 0", x.sheet(3, 2, Integer.MIN_VALUE), -14);
        due("23 sort 3", x.sheet(0, 3, 1), BAD);
        due("23 sort -2", x.sheet(0, -2, 1), BAD);
        due("23 no sheet", x.sheet(4, 0, 1), BAD);
        due("23 no sheet", x.sheet(-1, 0, -1), BAD);
        due("23 sort ahead of size", x.sheet(0, 3, -1), BAD);
        due("23 missing, whatever n", x.sheet(0, -1, 99), 1);
        due("23 missing", x.cell(0, 0, 0), -11);
        due("23 missing, below 0", x.sheet(0, -1, -99), 1);
        row(x, 1, 2, 0, 7, 7);
        due("23 anew", x.sheet(1, 2, 3), 1);
        due("23 all are 0 again", x.tells(1, 0, 1, 1), 1 << BAND);
        due("23 of none", x.sheet(1, 1, 0), 1);
        due("23 of none", x.cell(1, 0, 0), -12);
    }

    private static void promise24() {
        DanceStillOwed x = of(0, BAND, DANCER);
        for (int sort = 0; sort < 3; sort++) {
            x.sheet(sort, sort, 2);
            due("24 becomes", x.cell(sort, 1, 0x70000), 1);
            due("24 its lowest bits", x.tells(sort, 0, 1, 0), sort == 2 ? 1 : NONE);
            x.cell(sort, 1, 0x100);
            due("24 its lowest bits", x.tells(sort, 0, 1, 0), sort == 0 ? NONE : 1);
            x.cell(sort, 1, 1);
            due("24 1", x.tells(sort, 0, 1, 0), 1);
            due("24 place -1", x.cell(sort, -1, 1), -12);
            due("24 place 2", x.cell(sort, 2, 1), -12);
            due("24 far off", x.cell(sort, Integer.MAX_VALUE, 1), -12);
        }
        due("24 missing", x.cell(3, -1, 1), -11);
        due("24 no sheet", x.cell(4, 0, 1), BAD);
        due("24 no sheet", x.cell(-1, 0, 1), BAD);
    }

    private static void promise25() {
        DanceStillOwed x = of(0, WALLFLOWER, DANCER);
        row(x, 0, 1, 0, 1, 2, 3, 4, 5);
        x.sheet(1, 1, 6);
        due("25 copy", x.copy(0, 0, 1, 0, 5), 5);
        due("25 five came", x.tells(1, 0, 1, 0), 5);
        due("25 the last", x.copy(0, 5, 1, 5, 1), 1);
        due("25 all came", x.tells(1, 0, 1, 0), NONE);
        due("25 onto itself, as they were", x.copy(0, 1, 0, 2, 4), 4);
        due("25 2 is where 1 is", x.tells(0, 0, 1, 0), 2);
        x.cell(0, 2, 2);
        due("25 2 is 3 now", x.tells(0, 0, 1, 0), 3);
        due("25 back onto itself", x.copy(0, 3, 0, 2, 3), 3);
        due("25 2 3 4", x.tells(0, 0, 1, 0), 5);
        due("25 none", x.copy(0, 6, 1, 6, 0), 0);
        due("25 none behind the end", x.copy(0, 7, 1, 0, 0), -12);
        due("25 below 0", x.copy(0, 0, 1, 0, -1), -12);
        due("25 from -1", x.copy(0, -1, 1, 0, 1), -12);
        due("25 to -1", x.copy(0, 0, 1, -1, 1), -12);
        due("25 too many", x.copy(0, 1, 1, 0, 6), -12);
        due("25 too many for the other", x.copy(0, 0, 1, 1, 6), -12);
        due("25 far too many", x.copy(0, 1, 1, 1, Integer.MAX_VALUE), -12);
        due("25 far off", x.copy(0, Integer.MAX_VALUE, 1, 1, 1), -12);
        due("25 missing", x.copy(0, 0, 2, 0, 1), -11);
        due("25 missing", x.copy(3, 0, 0, 0, -1), -11);
        x.sheet(2, 0, 6);
        due("25 unlike sorts", x.copy(0, 0, 2, 0, 1), -13);
        due("25 unlike sorts ahead of the place", x.copy(0, 9, 2, 0, 1), -13);
        due("25 no sheet", x.copy(4, 0, 0, 0, 1), BAD);
        due("25 no sheet", x.copy(0, 0, -1, 0, 1), BAD);
    }

    private static void promise26() {
        DanceStillOwed x = new DanceStillOwed();
        row(x, 0, 0, 9, 3, 4, 6, 6, 5, 5, 0, 0);
        due("26 two by two", x.room(0, 0, 1, 3), 2);
        due("26 the first", x.told(0, 5) * 10 + x.told(0, 2), 34);
        due("26 one is left out", x.told(1, 5) * 10 + x.told(1, 2), 55);
        due("26 how many", x.count(0), 2);
        due("26 by the end", x.room(0, 0, 7, 2), -12);
        due("26 what stood ahead came", x.count(0), 3);
        due("26 half a one", x.room(0, 0, 8, 1), -12);
        due("26 none from anywhere", x.room(0, 0, -5, 0), 0);
        due("26 from -1", x.room(0, 0, -1, 1), -12);
        due("26 far off", x.room(0, 0, Integer.MAX_VALUE, 5), -12);
        due("26 far off", x.room(0, 0, Integer.MIN_VALUE, 5), -12);
        due("26 another sort", x.room(0, 1, 0, 1), -13);
        due("26 sort 3", x.room(0, 3, 0, 1), BAD);
        due("26 sort -1", x.room(0, -1, 0, 1), BAD);
        due("26 n 6", x.room(0, 0, 0, 6), BAD);
        due("26 n -1", x.room(0, 0, 0, -1), BAD);
        due("26 no sheet", x.room(4, 0, 0, 1), BAD);
        due("26 missing", x.room(1, 2, 0, 1), -11);
        due("26 still", x.count(0), 3);
        x.sheet(2, 2, 12);
        due("26 till the room is full", x.room(2, 2, 0, 5), 2);
        due("26 full", x.room(2, 2, 0, 5), 0);
        due("26 full, and by the end", x.room(2, 2, 4, 5), -12);
    }

    private static void promise27() {
        boolean[][] is = new boolean[6][6];
        for (int kind = 0; kind < 6; kind++) {
            is[kind][kind] = true;
            is[kind][DANCER] = true;
        }
        is[LAMB][OFFICER] = true;
        is[WALLFLOWER][MOTHER] = true;
        for (int kind = 0; kind < 6; kind++) {
            DanceStillOwed x = of(kind + 2, kind);
            for (int k = 0; k < 6; k++) {
                due("27 kind " + kind + " for " + k, x.taken(0, k), is[kind][k] ? kind + 2 : -13);
            }
            due("27 kind 6", x.taken(0, 6), BAD);
            due("27 kind -1", x.taken(0, -1), BAD);
            due("27 none such", x.taken(1, 0), -11);
            due("27 none such", x.taken(-1, 0), -11);
            due("27 the kind is ahead", x.taken(1, 6), BAD);
        }
    }
}
