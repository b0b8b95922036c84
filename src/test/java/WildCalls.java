import java.util.Random;

/** Calls with any arguments in any state: none may throw, and a refusal changes nothing that can be told. */
public final class WildCalls {
    private static final int[] FAR = {Integer.MIN_VALUE, Integer.MIN_VALUE + 1, -1000000, -15, -1, 0, 1, 2, 3, 4, 5, 6,
        9, 10, 12, 30, 31, 40, 41, 54, 55, 60, 61, 62, 99, 100, 160, 255, 256, 999, 1000, 12345, 54321, 99999, 1 << 30,
        Integer.MAX_VALUE - 1, Integer.MAX_VALUE};
    private static final int CALLS = 26;

    public static void main(String[] args) {
        Random random = new Random(11);
        int failed = 0;
        for (int run = 0; run < 400 && failed == 0; run++) {
            DanceStillOwed x = new DanceStillOwed();
            for (int k = 0; k < random.nextInt(6); k++) x.dancer(random.nextInt(6), random.nextInt(10));
            String was = look(x);
            for (int k = 0; k < 150; k++) {
                int op = random.nextInt(CALLS);
                int[] a = new int[5];
                for (int j = 0; j < 5; j++) a[j] = random.nextInt(3) == 0 ? FAR[random.nextInt(FAR.length)] : random.nextInt(6);
                boolean refused;
                try {
                    long answer = call(x, op, a);
                    refused = answer <= BAD && answer >= -14 || answer == DanceStillOwed.NO;
                    // what stood ahead of a place outside came, and a FAULT empties the tape
                    refused = refused && !(op == 24 && answer == -12);
                } catch (RuntimeException e) {
                    System.out.println("call " + op + java.util.Arrays.toString(a) + " threw " + e);
                    failed++;
                    break;
                }
                String is = look(x);
                if (refused && !is.equals(was)) {
                    System.out.println("call " + op + java.util.Arrays.toString(a) + " was refused and changed: " + was + " | " + is);
                    failed++;
                    break;
                }
                was = is;
            }
        }
        System.out.println("WildCalls: " + (failed == 0 ? "none threw, none was refused and changed anything" : "failed"));
        if (failed > 0) System.exit(1);
    }

    private static final int BAD = -2;

    /** All that can be told without changing it. */
    private static String look(DanceStillOwed x) {
        StringBuilder s = new StringBuilder();
        for (int k = 0; k < 6; k++) s.append(x.count(k)).append(' ');
        s.append(x.told(0, 1)).append(' ');
        for (int one = 0; one < 5; one++) {
            for (int what = 2; what < 9; what++) s.append(x.told(one, what)).append(' ');
            for (int other = 0; other < 5; other++) s.append(x.told(10 * one + other, 4)).append(' ');
        }
        for (int what = 0; what < 9; what++) if (what != 4) s.append(x.best(what)).append(' ');
        for (int sheet = 0; sheet < 4; sheet++) for (int what = 0; what < 9; what++) s.append(x.tells(sheet, 0, 1, what)).append(' ');
        return s.toString();
    }

    private static long call(DanceStillOwed x, int op, int[] a) {
        switch (op) {
            case 0: return x.set(a[0], a[1], a[2]);
            case 1: return x.dancer(a[0], a[1]);
            case 2: return x.told(a[0], a[1]);
            case 3: return x.asks(a[0], a[1], a[2]);
            case 4: return x.feed(a[0]);
            case 5: return x.text();
            case 6: return x.force(a[0]);
            case 7: return x.dance(a[0], a[1]);
            case 8: return x.round();
            case 9: return x.night();
            case 10: return x.strike(a[0]);
            case 11: return x.run(a[0], a[1], a[2], a[3]);
            case 12: return x.best(a[0]);
            case 13: return x.share(a[0], a[1]);
            case 14: return x.tells(a[0], a[1], a[2], a[3]);
            case 15: return x.film(a[0], a[1], a[2], a[3]);
            case 16: return x.drawn(a[0]);
            case 17: return x.chance(a[0], a[1], a[2], a[3]);
            case 18: return x.image();
            case 19: return x.back();
            case 20: return x.count(a[0]);
            case 21: return x.sheet(a[0], a[1], a[2]);
            case 22: return x.cell(a[0], a[1], a[2]);
            case 23: return x.copy(a[0], a[1], a[2], a[3], a[4]);
            case 24: return x.room(a[0], a[1], a[2], a[3]);
            default: return x.taken(a[0], a[1]);
        }
    }
}
