/** The edges of promises 14 and 15: what would be best, how soon, who keeps it going, and SHARES. */
public final class EdgesBest extends Edges {
    private static final int[] TWOS = {1, 2, 3, 4, 12, 13, 14, 23, 24, 34};

    public static void main(String[] args) {
        bestWhat();
        bestNothing();
        bestLike();
        bestBits();
        bestTold();
        sits();
        next();
        soonestBounds();
        soonestRounds();
        soonestTold();
        least();
        ring();
        endsBounds();
        endsFirst();
        keeps();
        inThought();
        shareNo();
        shareLowest();
        end("EdgesBest");
    }

    private static void bestWhat() {
        says(14, "what 0 .. 8; BAD");
        for (int what : beside(0, 8)) {
            refused("what " + what, BAD, x -> x.best(what));
        }
        says(14, "where nobody is, where one is, where nobody OWES any");
        int[] nobody = {0, 0, 0, 0, 0, 0, 0, 0, NONE};
        int[] one = {0, 0, 1, 0, 0, 0, 0, 0, NONE};
        int[] five = {0, 0, 31, 0, 0, 0, 0, 0, NONE};
        for (int what = 0; what < 9; what++) {
            due("what " + what + ", nobody", new DanceStillOwed().best(what), nobody[what]);
            due("what " + what + ", one", room(DANCER, 0).best(what), one[what]);
            due("what " + what + ", five", many(5, WALLFLOWER).best(what), five[what]);
        }
    }

    private static void bestNothing() {
        says(14, "BEST: that by which most is PAID; if nothing is, the set of no twos is the first");
        DanceStillOwed x = rule(owing(many(4, DANCER), 1, 9, 23, 9), "pays 0;wills 1;breath 4;");
        due("nothing is PAID", x.best(0), 0);
        due("how much", x.best(1), 0);
        DanceStillOwed y = owing(room(DANCER, 0, DANCER, 0, BAND, 0, BAND, 0), 23, 9);
        due("nobody MAY dance", y.best(0), 0);
        due("how much", y.best(1), 0);
        DanceStillOwed z = owing(room(DANCER, 0, DANCER, 0, BAND, 9, MOTHER, 9), 1, 1);
        due("1", z.best(0), 1);
        due("how much", z.best(1), 1);
        says(14, "a two that pays nothing is not in the first of like ones");
        DanceStillOwed v = rule(owing(room(DANCER, 0, DANCER, 0, DANCER, 1, DANCER, 1), 1, 9, 23, 9),
            "pays number;wills 1;breath 4;");
        due("only the other", v.best(0), 1 << 7);
        due("how much", v.best(1), 1);
    }

    private static void bestLike() {
        says(14, "of like ones the first (by bits: the least)");
        DanceStillOwed x = many(5, DANCER);
        for (int of : TWOS) {
            owing(x, of, 1);
        }
        due("all like", x.best(0), 1 << 2 | 1 << 4);
        due("how much", x.best(1), 2);
        due("0 1 and 0 2", owing(many(3, DANCER), 1, 1, 2, 1).best(0), 1);
        due("0 1 and 0 2, of which that pays more", owing(room(DANCER, 0, DANCER, 0, OFFICER, 0), 1, 1, 20, 2).best(0), 2);
        due("two that pay as much as one", owing(room(OFFICER, 0, DANCER, 0, DANCER, 0, DANCER, 0), 1, 2, 2, 1, 13, 1).best(0), 1);
        due("two that pay 1 more than one", owing(room(OFFICER, 0, DANCER, 0, DANCER, 0, DANCER, 0), 1, 2, 2, 2, 13, 1).best(0),
            1 << 1 | 1 << 5);
    }

    private static void bestBits() {
        says(14, "two k is bit k of 0 1, 0 2, 0 3, 0 4, 1 2, 1 3, 1 4, 2 3, 2 4, 3 4");
        for (int k = 0; k < 10; k++) {
            int back = TWOS[k] % 10 * 10 + TWOS[k] / 10;
            due("bit " + k, owing(many(5, DANCER), TWOS[k], 1).best(0), 1 << k);
            due("bit " + k + ", the greater OWES", owing(many(5, DANCER), back, 1).best(0), 1 << k);
            due("how much", owing(many(5, DANCER), TWOS[k], 1, back, 1).best(1), 2);
        }
        says(14, "sets of twos no DANCER of whom is in two");
        for (int k = 0; k < 10; k++) {
            for (int j = k + 1; j < 10; j++) {
                int a = TWOS[k];
                int b = TWOS[j];
                boolean apart = a / 10 != b / 10 && a / 10 != b % 10 && a % 10 != b / 10 && a % 10 != b % 10;
                DanceStillOwed x = owing(many(5, DANCER), a, 1, b, 1);
                due(a + " and " + b, x.best(0), apart ? 1 << k | 1 << j : 1 << k);
                due(a + " and " + b + ": how much", x.best(1), apart ? 2 : 1);
            }
        }
    }

    private static void bestTold() {
        says(14, "each of whom MAY dance now (told so, PAID told as all is now)");
        DanceStillOwed x = rule(owing(many(4, DANCER), 1, 9, 23, 9, 12, 5), "pays 9;wills owed<10 and done=0;breath 4;");
        due("both", x.best(1), 18);
        x.set(3, 0, 1);
        due("one won't", x.best(1), 9);
        DanceStillOwed y = owing(many(4, DANCER), 1, 9, 23, 9);
        y.set(3, 0, 3);
        due("the last breath", y.best(0), 1 | 1 << 7);
        y.set(3, 0, 4);
        due("no breath", y.best(0), 1 << 7);
    }

    private static void sits() {
        says(14, "SITS: DANCERS (bits) who don't dance in the next ROUND");
        due("nobody sits", owing(many(4, DANCER), 1, 1, 23, 1).best(2), 0);
        for (int one = 0; one < 5; one++) {
            int[] others = new int[4];
            int n = 0;
            for (int k = 0; k < 5; k++) {
                if (k != one) {
                    others[n++] = k;
                }
            }
            DanceStillOwed x = owing(many(5, DANCER), 10 * others[0] + others[1], 1, 10 * others[3] + others[2], 1);
            due("only " + one + " sits", x.best(2), 1 << one);
        }
        due("all sit", many(5, DANCER).best(2), 31);
        DanceStillOwed y = rule(owing(many(2, DANCER), 1, 1), "pays 0;wills 1;breath 4;");
        due("who dances and pays nothing does not sit", y.best(2), 0);
    }

    private static void next() {
        says(14, "PAID by the next ROUND, in thought (there ROUND may pass 999)");
        DanceStillOwed x = rule(owing(many(2, DANCER), 1, 9), "pays 1+(round=999);wills 1;breath 4;");
        x.set(0, 0, 999);
        due("from ROUND 999", x.best(3), 2);
        due("SITS from ROUND 999", x.best(2), 0);
        due("ENDS from ROUND 999", x.best(7), 4);
        due("ROUND stays", x.told(0, 0), 999);
        due("most", owing(many(5, WALLFLOWER), 1, 99, 10, 99, 23, 99, 32, 99).best(3), 396);
    }

    private static void soonestBounds() {
        says(14, "SOONEST: by how few ROUNDS (0 .. 3) all DEBTS are 0; NONE");
        for (int owing = 0; owing < 6; owing++) {
            due("a DEBT of " + owing, owing(many(2, DANCER), 1, owing).best(4), owing < 4 ? owing : NONE);
            due("and as much back", owing(many(2, DANCER), 1, owing, 10, owing).best(4), owing < 4 ? owing : NONE);
        }
        due("one with three", owing(many(5, DANCER), 1, 1, 20, 1, 3, 1).best(4), 3);
        due("one with four", owing(many(5, DANCER), 1, 1, 20, 1, 3, 1, 40, 1).best(4), NONE);
        due("three, each with each", owing(many(3, DANCER), 1, 1, 12, 1, 20, 1).best(4), 3);
        due("four, each with each", owing(many(4, DANCER), 1, 1, 12, 1, 20, 1, 3, 1, 13, 1, 23, 1).best(4), 3);
        due("two twos at once", owing(many(4, DANCER), 1, 1, 23, 1).best(4), 1);
        due("6 and a BAND's 0", owing(room(BAND, 9, OFFICER, 0), 1, 1).best(4), NONE);
        due("99 at once", owing(many(2, WALLFLOWER), 1, 99, 10, 99).best(4), 1);
    }

    private static void soonestRounds() {
        says(14, "ROUND 1 more by each; a set of no twos is one too");
        for (int round = 0; round < 5; round++) {
            DanceStillOwed x = rule(owing(many(2, DANCER), 1, 1), "pays 1;wills round=" + round + ";breath 4;");
            due("at ROUND " + round + " alone", x.best(4), round < 3 ? round + 1 : NONE);
            DanceStillOwed y = rule(owing(many(2, DANCER), 1, 1), "pays 1;wills round=" + (999 + round) + ";breath 4;");
            y.set(0, 0, 999);
            due("at ROUND " + (999 + round) + " alone", y.best(4), round < 3 ? round + 1 : NONE);
            due("ROUND stays", y.told(0, 0), 999);
        }
    }

    private static void soonestTold() {
        says(14, "each told as all is then");
        DanceStillOwed x = owing(many(2, DANCER), 1, 3);
        for (int done = 0; done < 5; done++) {
            x.set(3, 1, done);
            due("DONE " + done + " of 4", x.best(4), done < 2 ? 3 : NONE);
        }
        DanceStillOwed y = rule(owing(many(2, DANCER), 1, 7), "pays done+1;wills 1;breath 4;");
        due("1 and 2 and 3 of 7", y.best(4), NONE);
        due("1 and 2 and 3 of 6", owing(y, 1, 6).best(4), 3);
        due("1 and 2 of 3", owing(y, 1, 3).best(4), 2);
        DanceStillOwed z = rule(owing(many(2, DANCER), 1, 1, 10, 1), "pays owed;wills 1;breath 4;");
        due("both told ahead", z.best(4), 1);
        says(14, "by ROUNDS of any such sets of twos, not only of the BEST");
        DanceStillOwed v = rule(owing(many(5, DANCER), 1, 9, 12, 1, 23, 1, 34, 9), "pays debt;wills 1;breath 4;");
        due("BEST leaves two that meet", v.best(0), 1 | 1 << 9);
        due("by others it is sooner", v.best(4), 2);
    }

    private static void least() {
        says(14, "LEAST: what each OWES less what is OWED to one, where that is above 0, together");
        due("like for like", owing(many(3, DANCER), 1, 9, 10, 9).best(5), 0);
        due("1 more", owing(many(3, DANCER), 1, 10, 10, 9).best(5), 1);
        due("1 less", owing(many(3, DANCER), 1, 8, 10, 9).best(5), 1);
        due("round a ring", owing(many(3, DANCER), 1, 9, 12, 9, 20, 9).best(5), 0);
        due("passed on", owing(many(3, DANCER), 1, 9, 12, 8).best(5), 9);
        due("most", owing(many(5, DANCER), 2, 99, 3, 99, 4, 99, 12, 99, 13, 99, 14, 99).best(5), 594);
    }

    private static void ring() {
        says(14, "RING: the most DANCERS (2 .. 5) each of whom OWES the next one any, and the last one the first; 0: none");
        due("one DEBT", owing(many(5, DANCER), 1, 99).best(6), 0);
        due("a path of five", owing(many(5, DANCER), 1, 1, 12, 1, 23, 1, 34, 1).best(6), 0);
        int[] debts = {1, 12, 23, 34};
        for (int n = 2; n <= 5; n++) {
            DanceStillOwed x = many(5, DANCER);
            for (int k = 0; k < n - 1; k++) {
                owing(x, debts[k], 1);
            }
            due("open, of " + n, x.best(6), 0);
            due("a ring of " + n, owing(x, 10 * (n - 1), 1).best(6), n);
            due("of those who are last", owing(many(5, DANCER), 43, 1, 34, 1).best(6), 2);
        }
        for (int ring : rings()) {
            DanceStillOwed x = many(5, DANCER);
            int[] round = round(ring);
            for (int k = 0; k < round.length - 1; k++) {
                owing(x, round[k], 1);
            }
            due("open: " + ring, x.best(6), 0);
            due("closed: " + ring, owing(x, round[round.length - 1], 1).best(6), round.length);
        }
        due("not by the least", owing(many(5, DANCER), 12, 1, 23, 1, 31, 1).best(6), 3);
        due("two rings of two", owing(many(5, DANCER), 1, 1, 10, 1, 23, 1, 32, 1).best(6), 2);
        due("a ring is gone over once", owing(many(3, DANCER), 1, 1, 10, 1, 12, 1, 21, 1).best(6), 2);
        due("the longer of two", owing(many(5, DANCER), 1, 1, 10, 1, 23, 1, 34, 1, 42, 1).best(6), 3);
        due("of all who OWE all", owing(CROWDED.made(), 2, 1, 3, 1, 4, 1, 10, 1, 13, 1, 14, 1).best(6), 5);
    }

    private static void endsBounds() {
        says(14, "ENDS: behind how many ROUNDS (0 .. 60); NONE: not by 60");
        for (int owing : new int[] {0, 1, 2, 59, 60}) {
            DanceStillOwed x = rule(owing(many(2, DANCER), 1, owing), "pays 1;wills 1;breath 99;");
            due("a DEBT of " + owing, x.best(7), owing);
        }
        for (int owing : new int[] {61, 62, 99}) {
            DanceStillOwed x = rule(owing(many(2, DANCER), 1, owing), "pays 1;wills 1;breath 99;");
            due("a DEBT of " + owing, x.best(7), NONE);
        }
        DanceStillOwed x = rule(owing(many(2, DANCER), 1, 60), "pays 1;wills 1;breath 99;");
        x.set(0, 0, 999);
        due("60 from ROUND 999", x.best(7), 60);
    }

    private static void endsFirst() {
        says(14, "nothing is PAID first by the next one");
        DanceStillOwed x = rule(owing(many(2, DANCER), 1, 99), "pays not round=60;wills 1;breath 99;");
        due("by ROUND 60", x.best(7), 60);
        rule(x, "pays not round=61;wills 1;breath 99;");
        due("by ROUND 61", x.best(7), NONE);
        rule(x, "pays not round=0;wills 1;breath 99;");
        due("by ROUND 0", x.best(7), 0);
        due("though they dance", x.best(2), 0);
        DanceStillOwed y = owing(many(2, DANCER), 1, 99);
        due("by breath", y.best(7), 4);
        y.set(3, 0, 3);
        due("by the last breath", y.best(7), 1);
        y.set(3, 0, 4);
        due("by no breath", y.best(7), 0);
    }

    private static void keeps() {
        says(14, "KEEPS: who is OWED most; of like ones the first; NONE: nobody is OWED any");
        int[] to = {10, 1, 2, 3, 4};
        for (int one = 0; one < 5; one++) {
            DanceStillOwed x = owing(many(5, DANCER), to[one], 1);
            due("only " + one, x.best(8), one);
            for (int other = 0; other < 5; other++) {
                if (other != one) {
                    int of = other == 0 ? 10 * (one == 1 ? 2 : 1) : other;
                    due("like " + other, owing(x, of, 1).best(8), Math.min(one, other));
                    due("less than " + other, owing(x, of, 2).best(8), other);
                    owing(x, of, 0);
                }
            }
        }
        due("nobody", many(5, DANCER).best(8), NONE);
        due("by more than one", owing(many(4, DANCER), 1, 5, 2, 3, 12, 3).best(8), 2);
    }

    private static void inThought() {
        says(14, "what is asked changes nothing");
        for (Scene scene : new Scene[] {BUSY, CROWDED, TAPED}) {
            for (int what = 0; what < 9; what++) {
                DanceStillOwed x = scene.made();
                x.best(what);
                same("what " + what, x, scene.made());
            }
        }
    }

    private static void shareNo() {
        for (int part = 0; part < 2; part++) {
            int asked = part;
            says(15, "NO: none such, part " + part);
            for (int one : beside(0, 2)) {
                refused("of " + one, NO, x -> x.share(one, asked), BARE, BUSY, WRITTEN);
            }
            refused("of 5 beside five", NO, x -> x.share(5, asked), CROWDED);
            due("of the last", CROWDED.made().share(4, part), part == 0 ? 1 : 5);
            says(15, "NO: nobody OWES any, part " + part);
            refused("nobody OWES any", NO, x -> x.share(0, asked), () -> many(2, DANCER));
            due("another OWES 1", owing(many(3, DANCER), 12, 1).share(0, part), part);
        }
        says(15, "NO: part");
        for (int part : beside(0, 1)) {
            refused("part " + part, NO, x -> x.share(0, part));
        }
    }

    private static void shareLowest() {
        says(15, "part 0 above, 1 below the line, in lowest terms");
        int[][] shares = {{0, 1, 0, 1}, {1, 0, 1, 1}, {99, 0, 1, 1}, {1, 1, 1, 2}, {2, 4, 1, 3}, {99, 98, 99, 197},
            {0, 99, 0, 1}, {50, 25, 2, 3}, {1, 99, 1, 100}, {60, 36, 5, 8}, {13, 91, 1, 8}};
        for (int[] s : shares) {
            DanceStillOwed x = owing(many(2, DANCER), 1, s[0], 10, s[1]);
            due(s[0] + " above " + (s[0] + s[1]), x.share(0, 0), s[2]);
            due(s[0] + " below " + (s[0] + s[1]), x.share(0, 1), s[3]);
        }
        DanceStillOwed all = many(5, DANCER);
        for (int of = 0; of < 45; of++) {
            all.set(4, of, 99);
        }
        due("396 above 1980", all.share(4, 0), 1);
        due("396 below 1980", all.share(4, 1), 5);
        due("395 above 1979", owing(all, 43, 98).share(4, 0), 395);
        due("395 below 1979", all.share(4, 1), 1979);
    }
}
