/**
 * Up to five dancers who owe each other dances, the rounds that pay them,
 * and what can be told of both ahead of time. README.md says how to use it.
 */
public final class DanceStillOwed {
    public static final int NONE = -1, BAD = -2, STATE = -3, FULL = -4;
    public static final long NO = -4611686018427387904L;

    private static final int NOTHING_THERE = -11, OUTSIDE = -12, OF_ANOTHER_SORT = -13, BELOW_ZERO = -14;
    private static final int FIRST_FAULT = -100;

    private static final int MOST_DANCERS = 5, MOST_TEXTS = 6, TAPE_SIZE = 160;
    private static final int MOST_SHEETS = 4, MOST_CELLS = 40, MOST_TOLD = 30;
    private static final int LAST_ROUND = 999, LAST_NIGHT = 999, MOST_NUMBER = 9, BOUND = 99;
    private static final int ROUNDS_AHEAD = 40, ROUNDS_TO_END = 60, NEVER = 61, ROUNDS_TO_CLEAR = 3;
    private static final int MOST_SEEDS = 10, TRIED = 100;

    private static final int OFFICER = 1, MOTHER = 2, LAMB = 3, WALLFLOWER = 4, BAND = 5, KINDS = 6;
    /** Of each KIND the one that it is under. */
    private static final int[] UNDER = {-1, 0, 0, 1, 2, 0};

    /** The twos in the order of a ROUND, which is that of the bits of a set too. */
    private static final int[] LESSER = {0, 0, 0, 0, 1, 1, 1, 2, 2, 3};
    private static final int[] GREATER = {1, 2, 3, 4, 2, 3, 4, 3, 4, 4};
    /** All sets of twos without a dancer in two of them, the least first: of like ones the first is BEST. */
    private static final int[] SETS = {
        0, 1, 2, 4, 8, 16, 20, 24, 32, 34, 40, 64, 66, 68, 128, 129, 136,
        192, 256, 257, 260, 288, 512, 513, 514, 528};

    /** What set() may change, by its "what": the greatest value of each. */
    private static final int[] GREATEST = {LAST_ROUND, LAST_NIGHT, MOST_NUMBER, BOUND, BOUND};

    private static final int BYTES = 0, SHORTS = 1, INTS = 2, MISSING = -1;

    /** The parts of a TEXT. */
    private static final int PAYS = 0, WILLS = 1, BREATH = 2;

    private final Rules rules = new Rules();
    private final Floor now = new Floor(rules);
    private final Floor kept = new Floor(rules);
    /** One for each ROUND that is looked ahead by SOONEST; the first serves all other thoughts. */
    private final Floor[] thoughts = {new Floor(rules), new Floor(rules), new Floor(rules)};
    private final Reader reader = new Reader();
    private final Sheet[] sheets = {new Sheet(), new Sheet(), new Sheet(), new Sheet()};
    private boolean imageKept;
    private final int[] ring = new int[MOST_DANCERS];

    public DanceStillOwed() {
    }

    // ---- dancers

    public int set(int what, int of, int v) {
        if (what < 0 || what >= GREATEST.length || v < 0 || v > GREATEST[what]) {
            return BAD;
        }
        int was = told(of, what);
        if (was < 0) {
            return BAD;
        }
        switch (what) {
            case 0: now.round = v; break;
            case 1: now.night = v; break;
            case 2: now.number[of] = v; break;
            case 3: now.done[of] = v; break;
            default: now.debt[debtPlace(of)] = v; break;
        }
        return was;
    }

    public int dancer(int kind, int number) {
        if (kind < 0 || kind >= KINDS || number < 0 || number > MOST_NUMBER) {
            return BAD;
        }
        if (now.dancers >= MOST_DANCERS) {
            return FULL;
        }
        return now.join(kind, number);
    }

    public int told(int of, int what) {
        if (what == 0) {
            return now.round;
        }
        if (what == 1) {
            return now.night;
        }
        if (what == 4) {
            int place = debtPlace(of);
            return place < 0 ? BAD : now.debt[place];
        }
        if (!isDancer(of)) {
            return BAD;
        }
        switch (what) {
            case 2: return now.number[of];
            case 3: return now.done[of];
            case 5: return now.kind[of];
            case 6: return now.breath(of);
            case 7: return now.owes(of);
            case 8: return now.owedTo(of);
            default: return BAD;
        }
    }

    public int asks(int one, int other, int what) {
        if (!isTwo(one, other)) {
            return BAD;
        }
        switch (what) {
            case 0: return now.pays(one, now.owing(one, other));
            case 1: return now.will(one, other) ? 1 : 0;
            case 2: return now.may(one, other) ? 1 : 0;
            default: return BAD;
        }
    }

    private boolean isDancer(int one) {
        return one >= 0 && one < now.dancers;
    }

    private boolean isTwo(int one, int other) {
        return isDancer(one) && isDancer(other) && one != other;
    }

    /** Where a DEBT stands that is named by 10 times who OWES, and to whom; NONE: none such. */
    private int debtPlace(int of) {
        int one = of / 10;
        int other = of % 10;
        return of >= 0 && isTwo(one, other) ? one * MOST_DANCERS + other : NONE;
    }

    // ---- texts

    public int feed(int letter) {
        if (letter < 0 || letter > 255) {
            return BAD;
        }
        return reader.hold(letter) ? reader.size : FULL;
    }

    public int text() {
        if (rules.count >= MOST_TEXTS) {
            return FULL;
        }
        Text read = reader.read();
        return read == null ? FIRST_FAULT - reader.begin : rules.keep(read);
    }

    public int force(int text) {
        if (text < 0 || text >= rules.count) {
            return BAD;
        }
        int was = now.rule;
        now.rule = text;
        return was;
    }

    // ---- dances, rounds

    public int dance(int one, int other) {
        if (!isTwo(one, other)) {
            return BAD;
        }
        return now.may(one, other) ? now.step(one, other) : STATE;
    }

    public int round() {
        return now.round >= LAST_ROUND ? STATE : now.danceRound();
    }

    public int night() {
        return now.night >= LAST_NIGHT ? STATE : now.endNight();
    }

    public int strike(int digits) {
        int length = readRing(digits);
        if (length < 2) {
            return BAD;
        }
        int least = BOUND;
        for (int k = 0; k < length; k++) {
            least = Math.min(least, now.owing(ring[(k + 1) % length], ring[k]));
        }
        if (least == 0) {
            return STATE;
        }
        for (int k = 0; k < length; k++) {
            now.lessen(ring[(k + 1) % length], ring[k], least);
        }
        return least;
    }

    /**
     * Lays the DANCERS that the digits name into the ring, the last one first, so that each is owed by the next:
     * how many; 0 if one is none such or stands twice, or they are too many.
     */
    private int readRing(int digits) {
        int seen = 0;
        int rest = digits;
        int length = 0;
        for (; length < ring.length && rest > 0; length++) {
            int one = rest % 10 - 1;
            if (!isDancer(one) || (seen >> one & 1) == 1) {
                return 0;
            }
            ring[length] = one;
            seen |= 1 << one;
            rest /= 10;
        }
        return rest == 0 ? length : 0;
    }

    public int run(int n, int one, int other, int what) {
        if (n < 0 || n > ROUNDS_AHEAD || what < 0 || what > 2 || what == 2 && !isTwo(one, other)) {
            return BAD;
        }
        Floor thought = think();
        for (int k = 0; k < n; k++) {
            thought.danceRound();
        }
        switch (what) {
            case 0: return thought.all();
            case 1: return thought.stillOwed();
            default: return thought.owing(one, other);
        }
    }

    /** A floor that is as all is now, and may be danced on without a trace. */
    private Floor think() {
        thoughts[0].takeFrom(now);
        return thoughts[0];
    }

    // ---- what would be best

    public int best(int what) {
        switch (what) {
            case 0: now.weigh(); return now.bestSet();
            case 1: now.weigh(); return now.paidBy(now.bestSet());
            case 2: return sitters();
            case 3: return think().danceRound();
            case 4: return soonest();
            case 5: return now.least();
            case 6: return now.ring();
            case 7: return think().ends();
            case 8: return now.keeps();
            default: return BAD;
        }
    }

    public long share(int one, int part) {
        int all = now.all();
        if (!isDancer(one) || part < 0 || part > 1 || all == 0) {
            return NO;
        }
        return lowest(now.owes(one), all, part);
    }

    private int sitters() {
        Floor thought = think();
        thought.danceRound();
        return (1 << thought.dancers) - 1 & ~thought.danced;
    }

    private int soonest() {
        think();
        for (int rounds = 0; rounds <= ROUNDS_TO_CLEAR; rounds++) {
            if (clears(0, rounds)) {
                return rounds;
            }
        }
        return NONE;
    }

    /** Whether all DEBTS of a thought can be 0 behind so many ROUNDS, or fewer. */
    private boolean clears(int level, int left) {
        Floor floor = thoughts[level];
        int all = floor.all();
        if (all == 0) {
            return true;
        }
        // one DANCER needs a ROUND for each other one with whom a DEBT stands
        if (left < floor.mostToMeet()) {
            return false;
        }
        floor.weigh();
        if (left == 1) {
            return floor.paidBy(floor.bestSet()) == all;
        }
        if (level + 1 >= thoughts.length) {
            return false;
        }
        Floor next = thoughts[level + 1];
        for (int k = 0; k < SETS.length; k++) {
            if (floor.mayAll(SETS[k])) {
                next.takeFrom(floor);
                next.danceSet(SETS[k], floor);
                if (clears(level + 1, left - 1)) {
                    return true;
                }
            }
        }
        return false;
    }

    /** What stands above (part 0) or below the line, in lowest terms; below is above 0. */
    private static long lowest(int above, int below, int part) {
        int divisor = below;
        int rest = above;
        for (int turn = 0; turn < 64 && rest != 0; turn++) {
            int left = divisor % rest;
            divisor = rest;
            rest = left;
        }
        int number = part == 0 ? above : below;
        return divisor == 0 ? number : number / divisor;
    }

    // ---- paying that was told

    public int tells(int sheet, int one, int other, int what) {
        if (!isSheet(sheet) || !isTwo(one, other) || what < 0 || what > 8) {
            return BAD;
        }
        Sheet row = sheets[sheet];
        if (row.sort == MISSING) {
            return NOTHING_THERE;
        }
        if (row.size > MOST_TOLD) {
            return BAD;
        }
        switch (what) {
            case 0: return now.firstOtherwise(row, one);
            case 1: return kindsTold(row, one);
            case 2: return numbersTold(row, one);
            case 3: case 4: return roundsTold(row, one, what == 4);
            case 5: case 6: return donesTold(row, one, what == 6);
            case 7: return textsTold(row, one);
            default: return dancersTold(row, other);
        }
    }

    private int kindsTold(Sheet row, int one) {
        Floor thought = think();
        int bits = 0;
        for (int kind = 0; kind < KINDS; kind++) {
            thought.kind[one] = kind;
            if (thought.paysAs(row, one)) {
                bits |= 1 << kind;
            }
        }
        return bits;
    }

    private int numbersTold(Sheet row, int one) {
        Floor thought = think();
        int bits = 0;
        for (int number = 0; number <= MOST_NUMBER; number++) {
            thought.number[one] = number;
            if (thought.paysAs(row, one)) {
                bits |= 1 << number;
            }
        }
        return bits;
    }

    private int roundsTold(Sheet row, int one, boolean least) {
        Floor thought = think();
        int many = 0;
        for (int round = 0; round < TRIED; round++) {
            thought.round = round;
            if (thought.paysAs(row, one)) {
                if (least) {
                    return round;
                }
                many++;
            }
        }
        return least ? NONE : many;
    }

    private int donesTold(Sheet row, int one, boolean least) {
        Floor thought = think();
        int many = 0;
        for (int done = 0; done < TRIED; done++) {
            thought.done[one] = done;
            if (thought.paysAs(row, one)) {
                if (least) {
                    return done;
                }
                many++;
            }
        }
        return least ? NONE : many;
    }

    private int textsTold(Sheet row, int one) {
        Floor thought = think();
        int bits = 0;
        for (int rule = 0; rule < rules.count; rule++) {
            thought.rule = rule;
            if (thought.paysAs(row, one)) {
                bits |= 1 << rule;
            }
        }
        return bits;
    }

    private int dancersTold(Sheet row, int other) {
        int bits = 0;
        for (int one = 0; one < now.dancers; one++) {
            if (one != other && now.paysAs(row, one)) {
                bits |= 1 << one;
            }
        }
        return bits;
    }

    public int film(int sheet, int one, int other, int n) {
        if (!isSheet(sheet) || !isTwo(one, other) || n < 0 || n > MOST_TOLD) {
            return BAD;
        }
        Sheet row = sheets[sheet];
        row.become(BYTES, n);
        int all = 0;
        for (int owing = 0; owing < n; owing++) {
            int paid = now.pays(one, owing);
            row.put(owing, paid);
            all += paid;
        }
        return all;
    }

    public int drawn(int seed) {
        Floor thought = think();
        thought.draw(seed);
        return thought.ends();
    }

    public long chance(int seed, int m, int k, int part) {
        if (m < 1 || m > MOST_SEEDS || k < 0 || k > NEVER || part < 0 || part > 1) {
            return NO;
        }
        int soon = 0;
        for (int turn = 0; turn < m; turn++) {
            Floor thought = think();
            thought.draw(seed + turn);
            int ends = thought.ends();
            if ((ends == NONE ? NEVER : ends) <= k) {
                soon++;
            }
        }
        return lowest(soon, m, part);
    }

    public int image() {
        kept.takeFrom(now);
        imageKept = true;
        return kept.dancers;
    }

    public int back() {
        if (!imageKept) {
            return STATE;
        }
        now.takeFrom(kept);
        return now.dancers;
    }

    public int count(int what) {
        switch (what) {
            case 0: return now.dancers;
            case 1: return now.all();
            case 2: return now.round;
            case 3: return rules.count;
            case 4: return reader.size;
            case 5: return now.rule;
            default: return BAD;
        }
    }

    // ---- the host

    public int sheet(int sheet, int sort, int n) {
        if (!isSheet(sheet) || sort != MISSING && !isSort(sort)) {
            return BAD;
        }
        if (sort == MISSING) {
            sheets[sheet].become(MISSING, 0);
            return 1;
        }
        if (n > MOST_CELLS) {
            return BAD;
        }
        if (n < 0) {
            return BELOW_ZERO;
        }
        sheets[sheet].become(sort, n);
        return 1;
    }

    public int cell(int sheet, int i, int v) {
        if (!isSheet(sheet)) {
            return BAD;
        }
        Sheet row = sheets[sheet];
        if (row.sort == MISSING) {
            return NOTHING_THERE;
        }
        if (!row.holds(i, 1)) {
            return OUTSIDE;
        }
        row.put(i, v);
        return 1;
    }

    public int copy(int sheet, int i, int other, int j, int n) {
        if (!isSheet(sheet) || !isSheet(other)) {
            return BAD;
        }
        Sheet from = sheets[sheet];
        Sheet to = sheets[other];
        if (from.sort == MISSING || to.sort == MISSING) {
            return NOTHING_THERE;
        }
        if (from.sort != to.sort) {
            return OF_ANOTHER_SORT;
        }
        if (!from.holds(i, n) || !to.holds(j, n)) {
            return OUTSIDE;
        }
        System.arraycopy(from.row, i, to.row, j, n);
        return n;
    }

    public int room(int sheet, int sort, int from, int n) {
        if (!isSheet(sheet) || !isSort(sort) || n < 0 || n > MOST_DANCERS) {
            return BAD;
        }
        Sheet row = sheets[sheet];
        // a missing SHEET is of no other sort: it can be taken for one of any, and has nothing
        if (row.sort == MISSING) {
            return NOTHING_THERE;
        }
        if (row.sort != sort) {
            return OF_ANOTHER_SORT;
        }
        int came = 0;
        for (int k = 0; k < n; k++) {
            int at = from + 2 * k;
            if (!row.holds(at, 2)) {
                return OUTSIDE;
            }
            if (dancer(row.row[at], row.row[at + 1]) >= 0) {
                came++;
            }
        }
        return came;
    }

    public int taken(int one, int k) {
        if (k < 0 || k >= KINDS) {
            return BAD;
        }
        if (!isDancer(one)) {
            return NOTHING_THERE;
        }
        int kind = now.kind[one];
        for (int step = 0; step < KINDS && kind >= 0; step++) {
            if (kind == k) {
                return now.number[one];
            }
            kind = UNDER[kind];
        }
        return OF_ANOTHER_SORT;
    }

    private static boolean isSheet(int sheet) {
        return sheet >= 0 && sheet < MOST_SHEETS;
    }

    private static boolean isSort(int sort) {
        return sort >= BYTES && sort <= INTS;
    }

    private static int within(int v, int most) {
        return v < 0 ? 0 : v > most ? most : v;
    }

    /** A room with all that AN IMAGE keeps: the true one, the kept one, or one in thought. */
    private static final class Floor {
        private final Rules rules;
        int dancers;
        int round;
        int night;
        int rule;
        final int[] kind = new int[MOST_DANCERS];
        final int[] number = new int[MOST_DANCERS];
        final int[] done = new int[MOST_DANCERS];
        /** By who OWES, then to whom. */
        final int[] debt = new int[MOST_DANCERS * MOST_DANCERS];
        /** Who danced in the last ROUND (bits). */
        int danced;
        /** Which twos MAY dance (bits), and what of each the lesser and the greater would pay: as of weigh(). */
        private int mayDance;
        private final int[] paidByLesser = new int[LESSER.length];
        private final int[] paidByGreater = new int[LESSER.length];

        Floor(Rules rules) {
            this.rules = rules;
        }

        void takeFrom(Floor other) {
            dancers = other.dancers;
            round = other.round;
            night = other.night;
            rule = other.rule;
            System.arraycopy(other.kind, 0, kind, 0, kind.length);
            System.arraycopy(other.number, 0, number, 0, number.length);
            System.arraycopy(other.done, 0, done, 0, done.length);
            System.arraycopy(other.debt, 0, debt, 0, debt.length);
        }

        /**
         * There is room for one more. What stands behind the last one is 0 as it was made: floors are only
         * taken whole, so one who comes again has not DANCED and has no DEBTS.
         */
        int join(int itsKind, int itsNumber) {
            kind[dancers] = itsKind;
            number[dancers] = itsNumber;
            dancers++;
            return dancers - 1;
        }

        int owing(int one, int other) {
            return debt[one * MOST_DANCERS + other];
        }

        int owes(int one) {
            int all = 0;
            for (int other = 0; other < dancers; other++) {
                all += debt[one * MOST_DANCERS + other];
            }
            return all;
        }

        int owedTo(int one) {
            int all = 0;
            for (int other = 0; other < dancers; other++) {
                all += debt[other * MOST_DANCERS + one];
            }
            return all;
        }

        int all() {
            int all = 0;
            for (int one = 0; one < dancers; one++) {
                all += owes(one);
            }
            return all;
        }

        /** What a part of THE RULE tells of one, owing so much; pays and breath are held in their bounds. */
        private int value(int part, int one, int owing) {
            int[] names = rules.names;
            names[0] = owing;
            names[1] = owedTo(one);
            names[2] = number[one];
            names[3] = round;
            names[4] = done[one];
            names[5] = night;
            int v = rules.value(rule, part);
            return part == WILLS ? v : within(v, BOUND);
        }

        /** What one PAYS of a DEBT: it does not matter to whom. */
        int pays(int one, int owing) {
            int paid;
            switch (kind[one]) {
                case OFFICER: paid = 2 * value(PAYS, one, owing); break;
                case MOTHER: paid = 1; break;
                case LAMB: paid = 2 * value(PAYS, one, owing) + (round % 2 == 0 ? number[one] : 0); break;
                case WALLFLOWER: paid = owing; break;
                case BAND: paid = 0; break;
                default: paid = value(PAYS, one, owing); break;
            }
            return within(paid, owing);
        }

        boolean will(int one, int other) {
            int owing = owing(one, other);
            boolean owed = owing(other, one) > 0;
            switch (kind[one]) {
                case OFFICER: return true;
                case MOTHER: return owed && value(WILLS, one, owing) != 0;
                case LAMB: return done[one] != number[one];
                case WALLFLOWER: return owedTo(one) == 0 || owed && value(WILLS, one, owing) != 0;
                case BAND: return false;
                default: return value(WILLS, one, owing) != 0;
            }
        }

        int breath(int one) {
            int breath;
            switch (kind[one]) {
                case OFFICER: case LAMB: breath = value(BREATH, one, 0) + 3; break;
                case MOTHER: breath = value(BREATH, one, 0) / 2; break;
                case WALLFLOWER: breath = BOUND; break;
                case BAND: breath = number[one]; break;
                default: breath = value(BREATH, one, 0); break;
            }
            return within(breath, BOUND);
        }

        boolean may(int one, int other) {
            return (owing(one, other) > 0 || owing(other, one) > 0)
                && will(one, other) && will(other, one)
                && done[one] < breath(one) && done[other] < breath(other);
        }

        /** They DANCE: what both pay is told before either DEBT is less. */
        int step(int one, int other) {
            int paid = pays(one, owing(one, other));
            int paidBack = pays(other, owing(other, one));
            settle(one, other, paid, paidBack);
            return paid + paidBack;
        }

        void lessen(int one, int other, int paid) {
            debt[one * MOST_DANCERS + other] -= paid;
        }

        private void settle(int one, int other, int paid, int paidBack) {
            lessen(one, other, paid);
            lessen(other, one, paidBack);
            done[one] = Math.min(done[one] + 1, BOUND);
            done[other] = Math.min(done[other] + 1, BOUND);
        }

        int danceRound() {
            danced = 0;
            int paid = 0;
            for (int k = 0; k < LESSER.length; k++) {
                int one = LESSER[k];
                int other = GREATER[k];
                int both = 1 << one | 1 << other;
                if (other < dancers && (danced & both) == 0 && may(one, other)) {
                    paid += step(one, other);
                    danced |= both;
                }
            }
            round++;
            return paid;
        }

        int endNight() {
            int all = 0;
            for (int one = 0; one < dancers; one++) {
                all += done[one];
                done[one] = 0;
            }
            night++;
            return all;
        }

        /** Dances on till a ROUND pays nothing: how many paid. NONE: it was not seen to end. */
        int ends() {
            for (int k = 0; k <= ROUNDS_TO_END; k++) {
                if (danceRound() == 0) {
                    return k;
                }
            }
            return NONE;
        }

        void draw(int seed) {
            int z = seed;
            for (int one = 0; one < dancers; one++) {
                for (int other = 0; other < dancers; other++) {
                    if (one != other) {
                        z = z * 1103515245 + 12345;
                        debt[one * MOST_DANCERS + other] = (z >>> 9) % 4;
                    }
                }
            }
        }

        int stillOwed() {
            int bits = 0;
            for (int one = 0; one < dancers; one++) {
                if (owedTo(one) > 0) {
                    bits |= 1 << one;
                }
            }
            return bits;
        }

        int keeps() {
            int who = NONE;
            int most = 0;
            for (int one = 0; one < dancers; one++) {
                int owed = owedTo(one);
                if (owed > most) {
                    who = one;
                    most = owed;
                }
            }
            return who;
        }

        int least() {
            int left = 0;
            for (int one = 0; one < dancers; one++) {
                left += Math.max(0, owes(one) - owedTo(one));
            }
            return left;
        }

        int ring() {
            int most = 0;
            for (int first = 0; first < dancers; first++) {
                most = Math.max(most, longest(first, first, 1 << first, 1));
            }
            return most;
        }

        /** The longest ring that begins with its least DANCER and goes by those seen as far as "at"; 0: none. */
        private int longest(int first, int at, int seen, int length) {
            int most = length > 1 && owing(at, first) > 0 ? length : 0;
            for (int next = first + 1; next < dancers && length < MOST_DANCERS; next++) {
                if ((seen >> next & 1) == 0 && owing(at, next) > 0) {
                    most = Math.max(most, longest(first, next, seen | 1 << next, length + 1));
                }
            }
            return most;
        }

        /** With how many others the one that has most of them has a DEBT, either way. */
        int mostToMeet() {
            int most = 0;
            for (int one = 0; one < dancers; one++) {
                int meets = 0;
                for (int other = 0; other < dancers; other++) {
                    if (owing(one, other) > 0 || owing(other, one) > 0) {
                        meets++;
                    }
                }
                most = Math.max(most, meets);
            }
            return most;
        }

        /** Tells of all twos, as all is now, so that each set can be told from it. */
        void weigh() {
            mayDance = 0;
            for (int k = 0; k < LESSER.length; k++) {
                int one = LESSER[k];
                int other = GREATER[k];
                if (other < dancers && may(one, other)) {
                    mayDance |= 1 << k;
                    paidByLesser[k] = pays(one, owing(one, other));
                    paidByGreater[k] = pays(other, owing(other, one));
                }
            }
        }

        boolean mayAll(int set) {
            return (set & ~mayDance) == 0;
        }

        int paidBy(int set) {
            int paid = 0;
            for (int k = 0; k < LESSER.length; k++) {
                if ((set >> k & 1) == 1) {
                    paid += paidByLesser[k] + paidByGreater[k];
                }
            }
            return paid;
        }

        int bestSet() {
            int best = 0;
            int most = 0;
            for (int k = 0; k < SETS.length; k++) {
                int paid = mayAll(SETS[k]) ? paidBy(SETS[k]) : 0;
                if (paid > most) {
                    best = SETS[k];
                    most = paid;
                }
            }
            return best;
        }

        /** A set of twos dances here as it was weighed on a floor like this one. */
        void danceSet(int set, Floor weighed) {
            for (int k = 0; k < LESSER.length; k++) {
                if ((set >> k & 1) == 1) {
                    settle(LESSER[k], GREATER[k], weighed.paidByLesser[k], weighed.paidByGreater[k]);
                }
            }
            round++;
        }

        /** The least DEBT of which one does not pay what a row tells; NONE. */
        int firstOtherwise(Sheet row, int one) {
            for (int owing = 0; owing < row.size; owing++) {
                if (pays(one, owing) != row.row[owing]) {
                    return owing;
                }
            }
            return NONE;
        }

        boolean paysAs(Sheet row, int one) {
            return firstOtherwise(row, one) == NONE;
        }
    }

    /** A row of numbers; its cells are made once, so that becoming another row makes nothing. */
    private static final class Sheet {
        int sort = MISSING;
        int size;
        final int[] row = new int[MOST_CELLS];

        void become(int itsSort, int itsSize) {
            sort = itsSort;
            size = itsSize;
            for (int i = 0; i < row.length; i++) {
                row[i] = 0;
            }
        }

        boolean holds(int from, int n) {
            return from >= 0 && n >= 0 && n <= size && from <= size - n;
        }

        void put(int i, int v) {
            row[i] = sort == BYTES ? (byte) v : sort == SHORTS ? (short) v : v;
        }
    }

    /** A TEXT in the order in which it is worked out: a sign stands behind what it belongs to. */
    private static final class Text {
        /** Below NAMES stand the numbers themselves, below SIGNS the names by their places. */
        static final int NAMES = 10000, SIGNS = 10006;
        static final int NEGATE = 10006, NOT = 10007;
        static final int TWO_SIDED = 10008;
        static final int OR = 10008, AND = 10009, LESS = 10010, LIKE = 10011;
        static final int PLUS = 10012, MINUS = 10013, TIMES = 10014;

        final int[] code;
        /** Where each part ends. */
        final int[] ends;

        Text(int[] code, int[] ends) {
            this.code = code;
            this.ends = ends;
        }
    }

    /** The TEXTS, and the rows on which one is worked out. */
    private static final class Rules {
        private final Text[] texts = new Text[MOST_TEXTS];
        int count;
        /** debt, owed, number, round, done, night. */
        final int[] names = new int[6];
        private final int[] stack = new int[TAPE_SIZE];

        Rules() {
            int[] code = {1, 1, 4};
            int[] ends = {1, 2, 3};
            texts[0] = new Text(code, ends);
            count = 1;
        }

        /** There is room for one more. */
        int keep(Text text) {
            texts[count] = text;
            count++;
            return count - 1;
        }

        /** What a part of a TEXT comes to with the names as they are. */
        int value(int which, int part) {
            Text text = which >= 0 && which < count ? texts[which] : null;
            if (text == null) {
                return 0;
            }
            int top = -1;
            for (int k = part == PAYS ? 0 : text.ends[part - 1]; k < text.ends[part]; k++) {
                int c = text.code[k];
                if (c < Text.SIGNS) {
                    top++;
                    if (top >= stack.length) {
                        return 0;
                    }
                    stack[top] = c < Text.NAMES ? c : names[c - Text.NAMES];
                    continue;
                }
                if (c >= Text.TWO_SIDED) {
                    top--;
                }
                if (top < 0) {
                    return 0;
                }
                int left = stack[top];
                switch (c) {
                    case Text.NEGATE: stack[top] = -left; break;
                    case Text.NOT: stack[top] = left == 0 ? 1 : 0; break;
                    case Text.OR: stack[top] = left != 0 || stack[top + 1] != 0 ? 1 : 0; break;
                    case Text.AND: stack[top] = left != 0 && stack[top + 1] != 0 ? 1 : 0; break;
                    case Text.LESS: stack[top] = left < stack[top + 1] ? 1 : 0; break;
                    case Text.LIKE: stack[top] = left == stack[top + 1] ? 1 : 0; break;
                    case Text.PLUS: stack[top] = left + stack[top + 1]; break;
                    case Text.MINUS: stack[top] = left - stack[top + 1]; break;
                    default: stack[top] = left * stack[top + 1]; break;
                }
            }
            return top < 0 ? 0 : stack[top];
        }
    }

    /**
     * THE TAPE, and what reads it. A method of the grammar answers whether it could be read;
     * if not, the TOKEN that begins at "begin" is the FAULT.
     */
    private static final class Reader {
        private static final int END = 0, WRONG = 1, NUMBER = 2;
        private static final int PAYS_KEY = 200, WILLS_KEY = 201, BREATH_KEY = 202;
        private static final int OR_KEY = 203, AND_KEY = 204, NOT_KEY = 205;
        private static final String SIGNS = "();+-*<=";
        private static final int MOST_OPEN = 5, MOST_DIGITS = 4;

        private final int[] tape = new int[TAPE_SIZE];
        int size;
        private final int[] code = new int[TAPE_SIZE];
        private int used;
        /** Where in the code each part ends. */
        private final int[] ends = new int[BREATH + 1];
        private int at;
        /** The TOKEN ahead: a sign by its letter, a KEY, a name by its code, or one of the above. */
        private int token;
        private int number;
        int begin;
        /** How many ( , not and - are open. */
        private int open;

        boolean hold(int letter) {
            if (size >= tape.length) {
                return false;
            }
            tape[size] = letter;
            size++;
            return true;
        }

        /** THE TAPE as a TEXT, null by a FAULT; it is empty then. */
        Text read() {
            used = 0;
            at = 0;
            open = 0;
            next();
            boolean fine = true;
            for (int part = PAYS; part <= BREATH && fine; part++) {
                fine = pass(PAYS_KEY + part) && either() && pass(';');
                ends[part] = used;
            }
            fine = fine && token == END;
            size = 0;
            if (!fine) {
                return null;
            }
            int[] own = new int[used];
            System.arraycopy(code, 0, own, 0, used);
            return new Text(own, ends.clone());
        }

        private boolean pass(int due) {
            if (token != due) {
                return false;
            }
            next();
            return true;
        }

        private boolean put(int c) {
            if (used >= code.length) {
                return false;
            }
            code[used] = c;
            used++;
            return true;
        }

        /** E. */
        private boolean either() {
            boolean fine = both();
            for (int turn = 0; turn < TAPE_SIZE && fine && token == OR_KEY; turn++) {
                next();
                fine = both() && put(Text.OR);
            }
            return fine;
        }

        /** AND. */
        private boolean both() {
            boolean fine = denied();
            for (int turn = 0; turn < TAPE_SIZE && fine && token == AND_KEY; turn++) {
                next();
                fine = denied() && put(Text.AND);
            }
            return fine;
        }

        /** NOT. */
        private boolean denied() {
            if (token != NOT_KEY) {
                return compared();
            }
            if (!opens()) {
                return false;
            }
            boolean fine = denied() && put(Text.NOT);
            open--;
            return fine;
        }

        private boolean compared() {
            if (!sum()) {
                return false;
            }
            int sign = token;
            if (sign != '<' && sign != '=') {
                return true;
            }
            next();
            return sum() && put(sign == '<' ? Text.LESS : Text.LIKE);
        }

        private boolean sum() {
            boolean fine = term();
            for (int turn = 0; turn < TAPE_SIZE && fine && (token == '+' || token == '-'); turn++) {
                int sign = token;
                next();
                fine = term() && put(sign == '+' ? Text.PLUS : Text.MINUS);
            }
            return fine;
        }

        private boolean term() {
            boolean fine = one();
            for (int turn = 0; turn < TAPE_SIZE && fine && token == '*'; turn++) {
                next();
                fine = one() && put(Text.TIMES);
            }
            return fine;
        }

        private boolean one() {
            if (token == NUMBER || token >= Text.NAMES) {
                boolean fine = put(token == NUMBER ? number : token);
                next();
                return fine;
            }
            if (token != '-' && token != '(') {
                return false;
            }
            boolean minus = token == '-';
            if (!opens()) {
                return false;
            }
            boolean fine = minus ? one() && put(Text.NEGATE) : either() && pass(')');
            open--;
            return fine;
        }

        /** Goes on behind a TOKEN that stays open, if it can. */
        private boolean opens() {
            if (open >= MOST_OPEN) {
                return false;
            }
            open++;
            next();
            return true;
        }

        private void next() {
            while (at < size && (tape[at] == 32 || tape[at] == 10)) {
                at++;
            }
            begin = at;
            if (at >= size) {
                token = END;
            } else if (isDigit(tape[at])) {
                nextNumber();
            } else if (isLetter(tape[at])) {
                nextWord();
            } else {
                token = SIGNS.indexOf((char) tape[at]) >= 0 ? tape[at] : WRONG;
                at++;
            }
        }

        private void nextNumber() {
            number = 0;
            while (at < size && isDigit(tape[at])) {
                number = number * 10 + tape[at] - '0';
                at++;
            }
            token = at - begin > MOST_DIGITS ? WRONG : NUMBER;
        }

        private void nextWord() {
            while (at < size && isLetter(tape[at])) {
                at++;
            }
            token = spells("pays") ? PAYS_KEY
                : spells("wills") ? WILLS_KEY
                : spells("breath") ? BREATH_KEY
                : spells("or") ? OR_KEY
                : spells("and") ? AND_KEY
                : spells("not") ? NOT_KEY
                : spells("debt") ? Text.NAMES
                : spells("owed") ? Text.NAMES + 1
                : spells("number") ? Text.NAMES + 2
                : spells("round") ? Text.NAMES + 3
                : spells("done") ? Text.NAMES + 4
                : spells("night") ? Text.NAMES + 5
                : WRONG;
        }

        /** Whether the word from "begin" to "at" is that one. */
        private boolean spells(String word) {
            if (at - begin != word.length()) {
                return false;
            }
            for (int k = 0; k < word.length(); k++) {
                if (tape[begin + k] != word.charAt(k)) {
                    return false;
                }
            }
            return true;
        }

        private static boolean isDigit(int c) {
            return c >= '0' && c <= '9';
        }

        private static boolean isLetter(int c) {
            return c >= 'a' && c <= 'z';
        }
    }
}
