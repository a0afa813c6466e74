/**
 * Any calls with any arguments: none throws, refusals are counted and change nothing else,
 * questions change nothing, and what is asked in mind is what then comes.
 */
public final class AnyCallsTest {

    private static final int CALLS = 40;
    private static final long LONG_WIDE = 4000000000000000000L;
    private static final int[] STRANGE = {
        Integer.MIN_VALUE, Integer.MIN_VALUE + 1, -1000, -10, -9, -2, -1, 13, 61, 97, 100, 256, 1000,
        Integer.MAX_VALUE - 1, Integer.MAX_VALUE};

    private static int wrong = 0;
    private static long draw = 20261118L;

    private static void fault(String what) {
        wrong++;
        if (wrong < 40) {
            System.out.println(what);
        }
    }

    private static int below(int n) {
        draw = draw * 6364136223846793005L + 1442695040888963407L;
        return (int) ((draw >>> 33) % n);
    }

    private static int any(int n) {
        return below(12) == 0 ? STRANGE[below(STRANGE.length)] : below(n);
    }

    /** All that can be seen of an object but its refusals. */
    private static String seen(CarriedHome x) {
        StringBuilder s = new StringBuilder();
        for (int what = 0; what <= 9; what++) {
            s.append(x.count(what)).append(' ');
        }
        for (int stage = 0; stage < 12; stage++) {
            s.append(x.slope(stage)).append(' ');
        }
        for (int m = 0; m < x.count(0); m++) {
            for (int what = 0; what < 6; what++) {
                s.append(x.manOf(m, what)).append(' ');
            }
        }
        return s.toString();
    }

    private static int refusals(CarriedHome x) {
        int together = 0;
        for (int what = 11; what <= 16; what++) {
            together += x.count(what);
        }
        return together;
    }

    private static long change(CarriedHome x, int which) {
        switch (which) {
            case 0: return x.feed(below(2) == 0 ? "mpslkwd0123456789;".charAt(below(18)) : any(300));
            case 1: return Math.max(0, x.reign());
            case 2: return x.man(any(6), any(10));
            case 3: return x.pardons(any(8));
            case 4: return x.slopes(any(12), any(10));
            case 5: return x.loads(any(30));
            case 6: return x.snows(any(10));
            case 7: return x.days(any(8));
            case 8: return x.back();
            case 9: return x.row(any(15));
            case 10: return Math.max(0, x.judge());
            case 11: return x.clear();
            case 12: return x.image();
            case 13: return x.restore();
            case 14: return x.pardons(below(3));
            default: return x.man(below(6), below(10));
        }
    }

    /** Of dies() and the like the answers -1 and -9 are none; those that can't be told apart are 0. */
    private static long ask(CarriedHome x, int which) {
        switch (which) {
            case 16: return x.manOf(any(8), any(6));
            case 17: return x.slope(any(12));
            case 18: return x.then(any(61), any(3));
            case 19: return x.wornIn(any(8), any(61));
            case 20: return x.home(any(2));
            case 21: return x.dies(any(9) - 1);
            case 22: return x.mercy(any(61));
            case 23: return x.fewest(any(61));
            case 24: return x.crown(any(61));
            case 25: return x.dig(any(61));
            case 26: return x.keep(any(61), any(2));
            case 27: return narrow(x.pairs(any(4)));
            case 28: return x.whoBore();
            case 29: return x.whatKind(any(8), any(2));
            case 30: return x.two(any(8), any(8), any(61));
            case 31: return narrow(x.falls(any(8), any(21), any(13), any(2)));
            case 32: return x.shares(any(10), any(2));
            case 33: return x.strongest(any(4));
            case 34: return narrow(x.mean(any(2)));
            case 35: return x.spare(any(8));
            case 36: return x.height(any(3));
            case 37: return narrow(x.eased(any(61)));
            case 38: return x.shoulders(any(6));
            default: return x.lots(any(21), any(1000000) - 500000, any(2));
        }
    }

    private static long narrow(int answer) {
        return answer >= 1000000000 ? 1000000000 - answer : Math.max(0, answer);
    }

    private static long narrow(long answer) {
        return answer >= LONG_WIDE ? LONG_WIDE - answer : answer;
    }

    private static boolean isRefusal(long answer) {
        return answer < 0 && answer != -9;
    }

    private static void oneCall(CarriedHome x, int which) {
        String before = seen(x);
        int refusedBefore = refusals(x);
        long answer = which < 16 ? change(x, which) : ask(x, which);
        String after = seen(x);
        int refused = refusals(x) - refusedBefore;
        if (refused != (isRefusal(answer) ? 1 : 0)) {
            fault("call " + which + " answered " + answer + ", refusals more: " + refused);
        }
        if ((which >= 16 || refused != 0) && !before.equals(after)) {
            fault("call " + which + " answered " + answer + " and changed " + before + " to " + after);
        }
    }

    /** What is told of days on is what comes, if they go by; back() then brings all again. */
    private static void mindAndDays(CarriedHome x) {
        int n = 1 + below(60);
        if (x.count(1) + n > 999) {
            return;
        }
        String before = seen(x);
        int king = x.then(n, 0);
        int dead = x.then(n, 1);
        int home = x.home(0);
        int pardoned = x.count(5);
        int first = x.dies(-1);
        int worn = x.count(0) > 0 ? x.wornIn(0, n) : 0;
        int kept = x.count(9);
        if (x.days(n) != king || x.count(2) != king || x.count(6) != dead) {
            fault("days(" + n + ") is not as in mind: " + before);
        }
        if ((home >= 0 && home <= n) != (x.count(2) == 12)) {
            fault("home(0) told " + home + " of " + before);
        }
        if (x.count(0) > 0 && x.manOf(0, 3) != worn) {
            fault("wornIn(0, " + n + ") told " + worn + " of " + before);
        }
        if (n == 60 && (first == -9) != ((x.count(6) & pardoned) == 0)) {
            fault("dies(-1) told " + first + " of " + before);
        }
        x.back();
        if (kept < 8 && !seen(x).equals(before)) {
            fault("back() left " + seen(x) + " of " + before);
        }
    }

    public static void main(String[] args) {
        for (int run = 0; run < 3000; run++) {
            CarriedHome x = new CarriedHome();
            for (int i = 0; i < CALLS; i++) {
                oneCall(x, below(CALLS));
            }
            mindAndDays(x);
        }
        System.out.println(wrong == 0 ? "any calls do" : wrong + " faults");
        if (wrong != 0) {
            System.exit(1);
        }
    }
}
