/** The edges of promises 6 to 8: THE TAPE, what is a TEXT and where its FAULT is, and what is THE RULE. */
public final class EdgesTexts extends Edges {
    public static void main(String[] args) {
        feedBounds();
        tapeFull();
        textsFull();
        tapeEmptied();
        longestTape();
        readAnew();
        numbers();
        words();
        signs();
        blanks();
        endsTooEarly();
        endsTooLate();
        outOfPlace();
        fiveOpen();
        sixthOpen();
        openTillItEnds();
        firstOfFaults();
        wraps();
        oneOrZero();
        binds();
        names();
        forceBounds();
        end("EdgesTexts");
    }

    private static void feedBounds() {
        says(6, "A byte (0 .. 255): BAD");
        DanceStillOwed x = new DanceStillOwed();
        due("0", x.feed(0), 1);
        due("255", x.feed(255), 2);
        for (int letter : beside(0, 255)) {
            refused("feed of " + letter, BAD, y -> y.feed(letter));
        }
    }

    private static void tapeFull() {
        says(6, "THE TAPE (160 bytes at most): how many it has; FULL");
        DanceStillOwed x = new DanceStillOwed();
        for (int k = 1; k <= 160; k++) {
            due("byte " + k, x.feed(32), k);
        }
        due("byte 161", x.feed(32), FULL);
        due("and again", x.feed(32), FULL);
        due("it has", x.count(4), 160);
        refused("byte 161", FULL, y -> y.feed('1'), TAPED, WRITTEN);
        says(6, "BAD; FULL: the first that the words name");
        refused("256 on a full TAPE", BAD, y -> y.feed(256), TAPED, WRITTEN);
        refused("-1 on a full TAPE", BAD, y -> y.feed(-1), TAPED, WRITTEN);
    }

    private static void textsFull() {
        says(7, "There are 6 TEXTS at most, TEXT 0 with them: its number; FULL");
        DanceStillOwed x = new DanceStillOwed();
        for (int k = 1; k < 6; k++) {
            due("TEXT " + k, text(x, "pays 1;wills 1;breath 1;"), k);
            due("so many", x.count(3), k + 1);
        }
        due("one more", text(x, "pays 1;wills 1;breath 1;"), FULL);
        says(7, "FULL (ahead of all): THE TAPE stays");
        due("a TEXT stays", x.count(4), 24);
        due("FULL ahead of a FAULT", text(x, "$"), FULL);
        due("a FAULT stays", x.count(4), 25);
        refused("with blanks on THE TAPE", FULL, DanceStillOwed::text, WRITTEN);
        DanceStillOwed y = new DanceStillOwed();
        for (int k = 1; k < 6; k++) {
            text(y, "pays1;wills1;breath1;");
        }
        due("FULL ahead of an empty TAPE", y.text(), FULL);
    }

    private static void tapeEmptied() {
        says(7, "THE TAPE, which is empty then (by a FAULT, too)");
        DanceStillOwed x = new DanceStillOwed();
        text(x, "pays 1;wills 1;breath 1;");
        due("behind a TEXT", x.count(4), 0);
        due("the first byte behind a TEXT", x.feed('p'), 1);
        due("a FAULT at its end", x.text(), -100);
        due("behind a FAULT", x.count(4), 0);
        due("no TEXT comes by a FAULT", x.count(3), 2);
        due("nothing stands there any more", text(x, "pays 1;wills 1;breath 1"), -123);
        due("nor what stood behind", text(x, ";"), -100);
        due("and it is read anew", text(x, "pays 1;wills 1;breath 1;"), 2);
        DanceStillOwed y = TAPED.made();
        due("the full one is a TEXT", y.text(), 1);
        due("it is empty then", y.feed(1), 1);
    }

    private static void longestTape() {
        says(7, "THE TAPE (160 bytes at most) is a TEXT, or has its FAULT in the last byte or behind it");
        String s = "pays 1;wills 1;breath 1" + "+1".repeat(68);
        due("159 bytes that end too early", text(new DanceStillOwed(), s), -100 - 159);
        due("160 bytes", text(new DanceStillOwed(), s + ";"), 1);
        due("160 bytes that end too early", text(new DanceStillOwed(), s + "+"), -100 - 160);
        due("the last of 160 is a digit", text(new DanceStillOwed(), s + "1"), -100 - 160);
        due("the last of 160 is a letter", text(new DanceStillOwed(), "\n\n" + s.substring(0, 154) + "debt"), -100 - 160);
        due("the last five of 160 are digits", text(new DanceStillOwed(), "\n" + s.substring(0, 154) + "12345"), -100 - 155);
        due("the last of 160 is none", text(new DanceStillOwed(), s + "$"), -100 - 159);
        due("160 blanks", text(new DanceStillOwed(), " ".repeat(160)), -100 - 160);
        DanceStillOwed x = rule(new DanceStillOwed(), s + ";");
        x.dancer(DANCER, 0);
        due("all of it is worked out", x.told(0, 6), 69);
        String deep = "breath ----(1);";
        due("most that are open, on a long TAPE",
            text(new DanceStillOwed(), "pays 1;wills 1;" + " ".repeat(160 - 15 - deep.length()) + deep), 1);
    }

    private static void readAnew() {
        says(7, "THE TAPE is empty then: what stood there is no part of the next TEXT");
        String[][] tapes = {{"pays 12345", "pays 12", "107"}, {"pays debts;", "pays debt", "109"}, {"pays 1;", "pays", "104"},
            {"pays 1  ;", "pays 1 ", "107"}, {"paysx", "pays", "104"}, {"pays 1$", "pays 1", "106"}};
        for (String[] t : tapes) {
            DanceStillOwed x = new DanceStillOwed();
            text(x, t[0]);
            due("[" + t[1] + "] behind [" + t[0] + "]", text(x, t[1]), -Integer.parseInt(t[2]));
        }
        says(7, "each TEXT may be as long as can be");
        DanceStillOwed y = new DanceStillOwed();
        y.dancer(DANCER, 0);
        for (int k = 1; k < 4; k++) {
            String s = "pays " + k + "+1".repeat(60) + ";wills " + (k - 1) + ";breath " + k + ";";
            due("TEXT " + k, text(y, s + " ".repeat(150 - s.length())), k);
            y.force(k);
            due("breath of TEXT " + k, y.told(0, 6), k);
        }
        y.dancer(DANCER, 0);
        y.set(4, 1, 99);
        for (int k = 1; k < 4; k++) {
            y.force(k);
            due("pays of TEXT " + k, y.asks(0, 1, 0), 60 + k);
            due("wills of TEXT " + k, y.asks(0, 1, 1), k == 1 ? 0 : 1);
        }
    }

    private static void fault(String s, int place) {
        due("FAULT of [" + s + "]", text(new DanceStillOwed(), s), -100 - place);
    }

    /** That it is a TEXT when this stands where its first E is due. */
    private static void stands(String e) {
        due("pays " + e, text(new DanceStillOwed(), "pays " + e + ";wills 1;breath 1;"), 1);
    }

    private static void numbers() {
        says(7, "NUMBERS (as many digits as stand there, 4 at most); a NUMBER that is too long");
        for (String number : new String[] {"0", "9", "00", "99", "000", "0000", "9999", "1000", "6789"}) {
            stands(number);
        }
        fault("pays 10000;wills 1;breath 1;", 5);
        fault("pays 00000;wills 1;breath 1;", 5);
        fault("pays 1+12345;wills 1;breath 1;", 7);
        fault("pays 123456789012345;wills 1;breath 1;", 5);
        fault("pays 1;wills 1;breath 10000", 22);
        says(7, "a NUMBER's digits are 0 .. 9, its value what they tell");
        value("0", 0);
        value("0099", 99);
        value("9999-9900", 99);
        value("1234-1200", 34);
        value("9876-9800", 76);
        value("0005", 5);
    }

    private static void words() {
        says(7, "WORDS (a .. z), each as long as can be; a WORD that is neither KEY nor NAME");
        for (String word : new String[] {"debt", "owed", "number", "round", "done", "night"}) {
            stands(word);
            fault("pays " + word + "s;", 5);
            fault("pays a" + word + ";", 5);
            fault("pays " + word.substring(1) + ";", 5);
            fault("pays " + word.substring(0, word.length() - 1) + ";", 5);
            fault("pays " + word.toUpperCase() + ";", 5);
            fault("pays " + word.substring(0, 2) + " " + word.substring(2) + ";", 5);
        }
        for (String word : new String[] {"pays", "wills", "breath"}) {
            fault("pays " + word + ";", 5);
        }
        fault("paysdebt;wills 1;breath 1;", 0);
        fault("pays notdebt;wills 1;breath 1;", 5);
        fault("pays 1 ordebt;wills 1;breath 1;", 7);
        fault("pays 1;willsdebt;breath 1;", 7);
        says(7, "WORDS: every letter of them counts");
        String[] places = {"pays 1;", "wills", "pays 1;wills 1;", "breath", "pays 1 ", "or", "pays 1 ", "and",
            "pays ", "not", "pays ", "owed", "pays ", "number", "pays ", "round", "pays ", "done", "pays ", "night",
            "pays ", "debt", "", "pays"};
        for (int k = 0; k < places.length; k += 2) {
            String word = places[k + 1];
            for (int at = 0; at < word.length(); at++) {
                char other = word.charAt(at) == 'z' ? 'a' : (char) (word.charAt(at) + 1);
                fault(places[k] + word.substring(0, at) + other + word.substring(at + 1) + " 1;", places[k].length());
            }
            for (char c = 'a'; c <= 'z'; c++) {
                fault(places[k] + word + c + " 1;", places[k].length());
                fault(places[k] + c + word + " 1;", places[k].length());
            }
        }
        says(7, "pays, wills, breath, or, and, not are KEYS: each in its own place");
        String[] keys = {"pays", "wills", "breath", "or", "and", "not"};
        for (String key : keys) {
            if (!key.equals("pays")) {
                fault(key + " 1;wills 1;breath 1;", 0);
            }
            if (!key.equals("wills")) {
                fault("pays 1;" + key + " 1;breath 1;", 7);
            }
            if (!key.equals("breath")) {
                fault("pays 1;wills 1;" + key + " 1;", 15);
            }
            if (!key.equals("or") && !key.equals("and")) {
                fault("pays 1 " + key + " 1;wills 1;breath 1;", 7);
            }
            if (!key.equals("not")) {
                fault("pays " + key + " 1;wills 1;breath 1;", 5);
            }
        }
        says(7, "TOKENS: blanks may stand between, and need not");
        due("without any", text(new DanceStillOwed(), "pays1or 2and 3;wills1;breath1;"), 1);
        due("a NUMBER ends a WORD", text(new DanceStillOwed(), "pays not0or(1)and(2);wills-1;breath(debt);"), 1);
    }

    private static void signs() {
        says(7, "SIGNS ( ) ; + - * < =; a byte that begins none");
        String signs = "();+-*<=";
        String digits = "0123456789";
        for (int b = 0; b < 256; b++) {
            char c = (char) b;
            boolean blank = b == 32 || b == 10;
            boolean digit = digits.indexOf(c) >= 0;
            boolean opens = c == '(' || c == '-';
            boolean between = signs.indexOf(c) >= 3 && signs.indexOf(c) <= 7;
            // where a ONE is due a digit, a blank, ( and - may stand, so that the FAULT is the end
            fault("pays " + c, blank || digit || opens ? 6 : 5);
            // behind a ONE a further digit, a blank, ; and what stands between two of them may
            fault("pays 1" + c, blank || digit || between || c == ';' ? 7 : 6);
            // behind a NAME a letter makes another WORD of it
            fault("pays debt" + c, blank || between || c == ';' ? 10 : b >= 'a' && b <= 'z' ? 5 : 9);
        }
    }

    private static void blanks() {
        says(7, "blanks (32, 10) may stand between");
        String[] tokens = {"pays", "(", "1", "+", "debt", ")", ";", "wills", "not", "1", "<", "2", ";", "breath", "1", ";"};
        for (String blank : new String[] {" ", "\n", "  ", "\n\n", " \n ", "\n \n"}) {
            due("between all", text(new DanceStillOwed(), blank + String.join(blank, tokens) + blank), 1);
        }
        for (int b : new int[] {0, 9, 11, 12, 13, 31, 33, 133, 160, 255}) {
            fault("pays 1" + (char) b + ";wills 1;breath 1;", 6);
            fault("" + (char) b + "pays 1;wills 1;breath 1;", 0);
            fault("pays 1;wills 1;breath 1;" + (char) b, 24);
        }
        fault("pa ys 1;wills 1;breath 1;", 0);
        fault("pays 1 2;wills 1;breath 1;", 7);
        fault("pays\n1\n2;", 7);
    }

    private static void endsTooEarly() {
        says(7, "FAULT: the text's size, if it ends too early");
        String s = "pays(1+2)*-3<debt or not 1=0;wills 1;breath 4;";
        int[] ends = {0, 4, 5, 6, 7, 8, 9, 10, 11, 12, 13, 17, 20, 24, 26, 27, 28, 29, 34, 36, 37, 43, 45};
        for (int size : ends) {
            fault(s.substring(0, size), size);
            fault(s.substring(0, size) + " ", size + 1);
            fault(s.substring(0, size) + "\n \n", size + 3);
        }
        due("it does not end too early", text(new DanceStillOwed(), s), 1);
        fault("", 0);
        fault(" ", 1);
        fault("\n", 1);
        says(7, "a WORD that is cut short is none");
        fault("p", 0);
        fault("pay", 0);
        fault("pays 1;will", 7);
        fault("pays 1;wills 1;breat", 15);
        fault("pays 1 o", 7);
        fault("pays 1 an", 7);
        fault("pays no", 5);
    }

    private static void endsTooLate() {
        says(7, "TEXT: pays E ; wills E ; breath E ; and nothing behind it");
        String s = "pays 1;wills 1;breath 1;";
        due("no more", text(new DanceStillOwed(), s), 1);
        due("blanks behind", text(new DanceStillOwed(), s + " \n"), 1);
        for (String more : new String[] {";", "1", "pays", "debt", "(", ")", "$", "12345", "words", "-", "pays 1;"}) {
            fault(s + more, 24);
            fault(s + " " + more, 25);
        }
        says(7, "pays, wills, breath: each once, in this order");
        fault("wills 1;pays 1;breath 1;", 0);
        fault("pays 1;breath 1;wills 1;", 7);
        fault("pays 1;pays 1;breath 1;", 7);
        fault("pays 1;wills 1;wills 1;", 15);
        fault("pays 1 wills 1;breath 1;", 7);
        fault("pays 1;;wills 1;breath 1;", 7);
        fault("pays ;wills 1;breath 1;", 5);
        fault("pays 1;wills;breath 1;", 12);
        fault("pays 1;wills 1;breath;", 21);
        fault(";", 0);
    }

    private static void outOfPlace() {
        says(7, "NOT: not NOT, or SUM, perhaps < or = and a SUM");
        stands("1<2");
        stands("1=2");
        stands("(1<2)<3");
        stands("1<(2=3)");
        stands("1<2 and 2<3 or 3=4");
        stands("not 1<2");
        stands("not not 1");
        fault("pays 1<2<3;", 8);
        fault("pays 1<2=3;", 8);
        fault("pays 1=2<3;", 8);
        fault("pays 1=2=3;", 8);
        fault("pays 1<not 2;", 7);
        fault("pays <2;", 5);
        fault("pays 1<;", 7);
        fault("pays 1<=2;", 7);
        says(7, "SUM: TERM { + or - TERM }; TERM: ONE { * ONE }; a not is no ONE");
        fault("pays 1+not 2;", 7);
        fault("pays 1*not 2;", 7);
        fault("pays -not 2;", 6);
        fault("pays 1++2;", 7);
        fault("pays +2;", 5);
        fault("pays *2;", 5);
        fault("pays 1*;", 7);
        fault("pays 1*+2;", 7);
        stands("1--2");
        stands("1*-2");
        stands("1+-2");
        says(7, "E: AND { or AND }; AND: NOT { and NOT }");
        fault("pays or 1;", 5);
        fault("pays and 1;", 5);
        fault("pays 1 or or 2;", 10);
        fault("pays 1 and and 2;", 11);
        fault("pays 1 or;", 9);
        fault("pays 1 not 2;", 7);
        stands("1 or not 2 and not 3");
        says(7, "ONE: a NUMBER, a NAME, - ONE, ( E )");
        fault("pays ();", 6);
        fault("pays (1;", 7);
        fault("pays 1);", 6);
        fault("pays (1));", 8);
        fault("pays );", 5);
        fault("pays 1(2);", 6);
        fault("pays (1)2;", 8);
        fault("pays debt debt;", 10);
        fault("pays 1 debt;", 7);
        fault("pays -;", 6);
        fault("pays (pays 1);", 6);
    }

    private static void fiveOpen() {
        says(7, "while 5 of these are open: five may be");
        stands("(((((1)))))");
        stands("-----1");
        stands("not not not not not 1");
        stands("not(not(not 1))");
        stands("-(-(-1))");
        stands("not -(-(1))");
        stands("(not(-(1)))");
        stands("(((((1-1-1)))))");
        stands("(((((debt)))))");
        stands("not not not not(1-1)");
        says(7, "a - ahead of a ONE is one of these, a - between TERMS is none");
        stands("-----1-1-1");
        stands("(((((1-2)-3)-4)-5)-6)");
        fault("pays (((((1--2)))));", 12);
    }

    private static void sixthOpen() {
        says(7, "a ( , a not, a - ahead of a ONE while 5 of these are open: the place of the sixth");
        fault("pays ((((((1))))));", 10);
        fault("pays ------1;", 10);
        fault("pays not not not not not not 1;", 25);
        fault("pays not not not not not(1);", 24);
        fault("pays not not not not not-1;", 24);
        fault("pays (((((-1)))));", 10);
        fault("pays (((((not 1)))));", 10);
        fault("pays -----(1);", 10);
        fault("pays -(-(-(1)));", 10);
        fault("pays ((((-(1)))));", 10);
        fault("pays not(not(not(1)));", 16);
        fault("pays ((((((", 10);
        fault("pays (((((", 10);
    }

    private static void openTillItEnds() {
        says(7, "a ( till its )");
        stands("(((((1)))))+(((((1)))))");
        stands("((((1)))+(((1))))*(1)");
        stands("(((((1)))))-(1)");
        stands("((((1)+((1)))))");
        fault("pays ((((1)+(((1))))));", 14);
        fault("pays (((((1)+(1)+((1)))));", 18);
        says(7, "- till what it belongs to ends");
        stands("-----1*-----1");
        stands("-----1--1");
        stands("(-1--1)*-1+-1=-1");
        fault("pays -----1*------1;", 17);
        says(7, "not till what it belongs to ends");
        stands("not not not not not 1 and not not not not not 1");
        stands("not not not not not 1 or not 1");
        stands("not not not not 1=-1");
        fault("pays not not not not not 1=-1;", 27);
        fault("pays not not not not not 1+(1);", 27);
        fault("pays not not not not not 1*-1;", 27);
        fault("pays not not not not not 1<2 and not not not not not not 1;", 53);
    }

    private static void firstOfFaults() {
        says(7, "the place of the first byte of the first TOKEN that can't stand there");
        fault("pays ) 12345 $", 5);
        fault("pays 12345 ) $", 5);
        fault("pays $ ) 12345", 5);
        fault("pays words 12345;", 5);
        fault("pays 1 words", 7);
        fault("pays 1 12345", 7);
        fault("pays 1;breath 12345", 7);
        fault("  \n pays  1   words", 14);
    }

    /** What an E comes to, as far as a DEBT of 99 may show it. */
    private static void value(String e, int want) {
        DanceStillOwed x = owing(room(DANCER, 7, DANCER, 0), 1, 99, 10, 5);
        x.set(0, 0, 11);
        x.set(1, 0, 13);
        x.set(3, 0, 2);
        due(e, rule(x, "pays " + e + ";wills 1;breath 1;").asks(0, 1, 0), want);
    }

    private static final String LEAST_INT = "256*256*256*128";

    private static void wraps() {
        says(7, "An E is an int (32 bits, wrapping)");
        value("256*256*256*256+9", 9);
        value(LEAST_INT + "<0", 1);
        value(LEAST_INT + "-1<0", 0);
        value("0<" + LEAST_INT + "-1", 1);
        value("-(" + LEAST_INT + ")<0", 1);
        value("-(" + LEAST_INT + ")=" + LEAST_INT, 1);
        value("1+(" + LEAST_INT + "-1)=" + LEAST_INT, 1);
        value("-1-(" + LEAST_INT + "-1)=" + LEAST_INT, 1);
        value("(" + LEAST_INT + "-1)*2", 0);
        value("(" + LEAST_INT + "-1)*2=-2", 1);
        value(LEAST_INT + "*2", 0);
        value(LEAST_INT + "+" + LEAST_INT + "+5", 5);
        value(LEAST_INT + "*-1=" + LEAST_INT, 1);
        value("9999*9999*9999<0", 1);
        value("not 256*256*256*256", 1);
        value("256*256*256*256 or 0", 0);
        value(LEAST_INT + " and 1", 1);
        value("9999*9999*22<0", 1);
        value("9999*9999*21<0", 0);
    }

    private static void oneOrZero() {
        says(7, "of or, and, not, <, = 1 or 0 (what is not 0 is true)");
        int[][] truths = {{0, 0}, {0, 7}, {7, 0}, {7, 9}, {7, 7}};
        for (int[] t : truths) {
            boolean left = t[0] != 0;
            boolean right = t[1] != 0;
            value(t[0] + " or " + t[1], left || right ? 1 : 0);
            value(t[0] + " and " + t[1], left && right ? 1 : 0);
            value("-" + t[0] + " or -" + t[1], left || right ? 1 : 0);
            value("-" + t[0] + " and -" + t[1], left && right ? 1 : 0);
            value("9+(" + t[0] + " or " + t[1] + ")", left || right ? 10 : 9);
            value("9+(" + t[0] + " and " + t[1] + ")", left && right ? 10 : 9);
            value("9+(" + t[0] + "<" + t[1] + ")", t[0] < t[1] ? 10 : 9);
            value("9+(" + t[0] + "=" + t[1] + ")", t[0] == t[1] ? 10 : 9);
        }
        value("9+(not 7)", 9);
        value("9+(not -7)", 9);
        value("9+(not 0)", 10);
        value("9+(not 1)", 9);
        value("9+(not not 7)", 10);
        value("6<7", 1);
        value("9+(7<6)", 9);
        value("-1<0", 1);
        value("9+(0<-1)", 9);
        value("-1<1", 1);
    }

    private static void binds() {
        says(7, "{ } from the left; * binds ahead of + and -, these ahead of < and =, these ahead of not, and, or");
        value("10-3-4", 3);
        value("10-(3-4)", 11);
        value("10-3+4", 11);
        value("2+3*4", 14);
        value("2*3+4", 10);
        value("-2+5", 3);
        value("-2*-3", 6);
        value("--5", 5);
        value("1+1<3", 1);
        value("3=1+2", 1);
        value("not 0=0", 0);
        value("not 1=2", 1);
        value("not 0 and 0", 0);
        value("not (0 and 0)", 1);
        value("1 or 1 and 0", 1);
        value("(1 or 1) and 0", 0);
        value("0 and 1 or 1", 1);
        value("not 1 or 1", 1);
    }

    private static void names() {
        says(7, "NAMES of one of DANCERS and another one");
        value("debt", 99);
        value("owed", 5);
        value("number", 7);
        value("round", 11);
        value("done", 2);
        value("night", 13);
        says(7, "NAMES at their bounds");
        DanceStillOwed x = owing(many(5, DANCER), 1, 99, 10, 99, 20, 99, 30, 99, 40, 99);
        x.set(0, 0, 999);
        x.set(1, 0, 999);
        x.set(2, 0, 9);
        x.set(3, 0, 99);
        rule(x, "pays (debt=99)+(owed=396)*2+(number=9)*4+(round=999)*8+(done=99)*16+(night=999)*32;wills 1;breath 4;");
        due("all of them", x.asks(0, 1, 0), 63);
        DanceStillOwed y = rule(many(2, DANCER), "pays 1;wills not(debt+owed+number+round+done+night);breath 4;");
        due("none of them", y.asks(0, 1, 1), 1);
    }

    private static void forceBounds() {
        says(8, "A TEXT is THE RULE: which was");
        DanceStillOwed x = WRITTEN.made();
        due("the last", x.force(5), 3);
        due("it is", x.count(5), 5);
        due("the first", x.force(0), 5);
        due("it is", x.count(5), 0);
        due("the same", x.force(0), 0);
        due("the first, on a new object", new DanceStillOwed().force(0), 0);
        says(8, "BAD");
        for (int text : beside(0, 5)) {
            refused("TEXT " + text, BAD, y -> y.force(text));
        }
        refused("TEXT 1 of 1", BAD, y -> y.force(1), BARE, CROWDED, TAPED);
        refused("TEXT 2 of 2", BAD, y -> y.force(2), BUSY);
        DanceStillOwed z = new DanceStillOwed();
        text(z, "pays 1;wills 1;breath 1;");
        text(z, "pays 1;wills 1;breath 1");
        due("what was no TEXT", z.force(2), BAD);
        due("what was one", z.force(1), 0);
    }
}
