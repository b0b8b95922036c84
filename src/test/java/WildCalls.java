import java.util.ArrayList;
import java.util.Arrays;
import java.util.List;
import java.util.Random;

/**
 * Calls with any arguments in any state: none may throw, and what is refused changes nothing: where the refused calls
 * are left out, the others answer as they did, and all is the same in the end.
 */
public final class WildCalls {
    private static final int[] FAR = {Integer.MIN_VALUE, Integer.MIN_VALUE + 1, -1000000, -15, -1, 0, 1, 2, 3, 4, 5, 6,
        9, 10, 12, 30, 31, 40, 41, 54, 55, 60, 61, 62, 99, 100, 160, 255, 256, 999, 1000, 12345, 54321, 99999, 1 << 30,
        Integer.MAX_VALUE - 1, Integer.MAX_VALUE};
    private static final int CALLS = 26, ROOM = 24;

    public static void main(String[] args) {
        Random random = new Random(11);
        int failed = 0;
        for (int run = 0; run < 1500 && failed == 0; run++) {
            List<int[]> calls = new ArrayList<>();
            for (int k = random.nextInt(6); k > 0; k--) {
                calls.add(new int[] {1, random.nextInt(6), random.nextInt(10), 0, 0, 0});
            }
            while (calls.size() < 300) {
                calls.add(wild(random));
            }
            failed += isWrong(calls) ? 1 : 0;
        }
        System.out.println("WildCalls: " + (failed == 0 ? "none threw, none was refused and changed anything" : "failed"));
        if (failed > 0) {
            System.exit(1);
        }
    }

    /** What is called, and with which numbers. */
    private static int[] wild(Random random) {
        int[] call = new int[6];
        call[0] = random.nextInt(CALLS);
        for (int j = 1; j < 6; j++) {
            call[j] = random.nextInt(3) == 0 ? FAR[random.nextInt(FAR.length)] : random.nextInt(6);
        }
        return call;
    }

    private static boolean isWrong(List<int[]> calls) {
        DanceStillOwed x = new DanceStillOwed();
        DanceStillOwed untouched = new DanceStillOwed();
        for (int[] c : calls) {
            try {
                long answer = call(x, c);
                // what stood ahead of a place outside came
                boolean came = c[0] == ROOM && answer == -12;
                boolean refused = answer <= -2 && answer >= -14 || answer == DanceStillOwed.NO;
                if ((!refused || came) && call(untouched, c) != answer) {
                    System.out.println("call " + Arrays.toString(c) + " does not answer " + answer + " without the refused ones");
                    return true;
                }
            } catch (RuntimeException e) {
                System.out.println("call " + Arrays.toString(c) + " threw " + e);
                return true;
            }
        }
        String is = Edges.look(x);
        String was = Edges.look(untouched);
        if (!is.equals(was)) {
            System.out.println("refused calls changed something: " + was + " | " + is);
        }
        return !is.equals(was);
    }

    private static long call(DanceStillOwed x, int[] a) {
        switch (a[0]) {
            case 0: return x.set(a[1], a[2], a[3]);
            case 1: return x.dancer(a[1], a[2]);
            case 2: return x.told(a[1], a[2]);
            case 3: return x.asks(a[1], a[2], a[3]);
            case 4: return x.feed(a[1]);
            case 5: return x.text();
            case 6: return x.force(a[1]);
            case 7: return x.dance(a[1], a[2]);
            case 8: return x.round();
            case 9: return x.night();
            case 10: return x.strike(a[1]);
            case 11: return x.run(a[1], a[2], a[3], a[4]);
            case 12: return x.best(a[1]);
            case 13: return x.share(a[1], a[2]);
            case 14: return x.tells(a[1], a[2], a[3], a[4]);
            case 15: return x.film(a[1], a[2], a[3], a[4]);
            case 16: return x.drawn(a[1]);
            case 17: return x.chance(a[1], a[2], a[3], a[4]);
            case 18: return x.image();
            case 19: return x.back();
            case 20: return x.count(a[1]);
            case 21: return x.sheet(a[1], a[2], a[3]);
            case 22: return x.cell(a[1], a[2], a[3]);
            case 23: return x.copy(a[1], a[2], a[3], a[4], a[5]);
            case ROOM: return x.room(a[1], a[2], a[3], a[4]);
            default: return x.taken(a[1], a[2]);
        }
    }
}
