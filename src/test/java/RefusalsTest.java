import java.io.IOException;
import java.nio.file.Files;
import java.nio.file.Path;
import java.util.Set;
import java.util.TreeSet;
import java.util.regex.Matcher;
import java.util.regex.Pattern;

/**
 * Each refusal that a promise of ../shared/DOC.md tells: it is told at the number's edge and far beyond,
 * the first that fits comes first, and nothing changes but how many there were.
 *
 * <p>Whether nothing changes is seen on a twin, made by the same calls but the refused one.
 */
public final class RefusalsTest {

    private static final int LEAST = Integer.MIN_VALUE;
    private static final int GREATEST = Integer.MAX_VALUE;
    private static final int INT_WIDE = 1000000000;
    private static final long LONG_WIDE = 4000000000000000000L;

    private static final int NOBODY = -1;
    private static final int OTHER = -2;
    private static final int STATE = -3;
    private static final int BELOW = -4;
    private static final int ROOM = -6;

    private static int wrong = 0;
    private static final Set<String> tested = new TreeSet<>();

    private interface Call {
        long on(CarriedHome x);
    }

    private interface Making {
        CarriedHome made();
    }

    private static void fault(String what) {
        wrong++;
        System.out.println(what);
    }

    private static void tell(CarriedHome x, String text) {
        for (int i = 0; i < text.length(); i++) {
            x.feed(text.charAt(i));
        }
        if (x.reign() < 1) {
            fault("no reign: " + text);
        }
    }

    /** Letters, a row, an image and three changes to take back, so that a change of any can be seen. */
    private static CarriedHome withAllThatCanBeSeen(CarriedHome x) {
        x.image();
        x.loads(13);
        x.slopes(5, 6);
        x.pardons(1);
        x.row(3);
        x.row(0);
        x.feed('w');
        x.feed('7');
        return x;
    }

    /** 0 is DEAD, 1 and 2 are CONDEMNED, 3 and 4 are PARDONED, the king at 3, in snow. */
    private static CarriedHome usual() {
        CarriedHome x = new CarriedHome();
        tell(x, "m39;m49;m00;m59;m08;p0;l01;s002;d02;p1;p3;p4;w2;k03;");
        return withAllThatCanBeSeen(x);
    }

    private static CarriedHome ofEightMen() {
        CarriedHome x = new CarriedHome();
        tell(x, "m39;m49;m00;m59;m08;m20;m30;m11;w2;");
        return withAllThatCanBeSeen(x);
    }

    private static CarriedHome onDay(int day) {
        CarriedHome x = new CarriedHome();
        int left = day;
        while (left > 0) {
            int n = Math.min(60, left);
            x.days(n);
            left -= n;
        }
        x.man(4, 9);
        x.man(0, 0);
        return withAllThatCanBeSeen(x);
    }

    private static CarriedHome of96Letters() {
        CarriedHome x = usual();
        for (int i = 2; i < 96; i++) {
            x.feed(';');
        }
        return x;
    }

    private static CarriedHome ofFullRow() {
        CarriedHome x = usual();
        for (int i = 2; i < 12; i++) {
            x.row(i);
        }
        return x;
    }

    private static CarriedHome withNothingToTakeBack() {
        CarriedHome x = usual();
        x.man(1, 1);
        return x;
    }

    private static String realmOf(CarriedHome x) {
        StringBuilder s = new StringBuilder();
        for (int what = 0; what <= 9; what++) {
            s.append(x.count(what)).append(' ');
        }
        for (int stage = 0; stage < 12; stage++) {
            s.append(x.slope(stage)).append(' ');
        }
        for (int m = 0; m < x.count(0); m++) {
            for (int what = 0; what < 6; what++) {
                s.append(x.manOf(m, what)).append(' ');
            }
        }
        return s.toString();
    }

    /** All that there is, also what only taking back, restoring, judging and reigning bring out. */
    private static String allOf(CarriedHome x) {
        StringBuilder s = new StringBuilder(realmOf(x));
        s.append("row ").append(x.judge());
        s.append(" back ").append(x.back()).append(' ').append(x.count(5)).append(' ').append(x.back());
        s.append(' ').append(x.slope(5)).append(' ').append(x.back()).append(' ').append(x.count(3));
        s.append(" letters ").append(x.feed(';')).append(' ').append(x.reign()).append(' ').append(x.count(4));
        s.append(" image ").append(x.restore()).append(' ').append(realmOf(x));
        return s.toString();
    }

    private static void refused(int promise, String call, Making making, Call c, int number) {
        tested.add(promise + ": " + number);
        CarriedHome x = making.made();
        int[] before = new int[6];
        for (int i = 0; i < 6; i++) {
            before[i] = x.count(11 + i);
        }
        long answer = c.on(x);
        if (answer != due(promise, number)) {
            fault("promise " + promise + ": " + call + " answered " + answer + ", due is " + due(promise, number));
        }
        for (int i = 0; i < 6; i++) {
            int more = i == -number - 1 ? 1 : 0;
            if (x.count(11 + i) != before[i] + more) {
                fault("promise " + promise + ": " + call + " left count(" + (11 + i) + ") " + x.count(11 + i));
            }
        }
        String left = allOf(x);
        String twin = allOf(making.made());
        if (!left.equals(twin)) {
            fault("promise " + promise + ": " + call + " left\n  " + left + "\nof\n  " + twin);
        }
    }

    private static void refused(int promise, String call, Call c, int number) {
        refused(promise, call, RefusalsTest::usual, c, number);
    }

    /** "Of pairs(), eased() 1000000000 less them, of longs 4000000000000000000 less them". */
    private static long due(int promise, int number) {
        switch (promise) {
            case 22:
            case 32:
                return INT_WIDE - number;
            case 26:
            case 29:
                return LONG_WIDE - number;
            default:
                return number;
        }
    }

    private static final int[] NO_MAN = {-1, 5, 7, 8, -2, LEAST, GREATEST};
    private static final int[] NO_STAGE = {-1, 12, 13, LEAST, GREATEST};
    private static final int[] NEGATIVE = {-1, -2, -60, LEAST, LEAST + 1};

    private static int[] noWhatAbove(int greatest) {
        return new int[] {-1, greatest + 1, greatest + 2, LEAST, GREATEST};
    }

    private static int[] above(int greatest) {
        return new int[] {greatest + 1, greatest + 2, GREATEST};
    }

    private static int[] below(int least) {
        return new int[] {least - 1, -1, LEAST};
    }

    private static void feed() {
        for (int v : NEGATIVE) {
            refused(2, "feed(" + v + ")", x -> x.feed(v), BELOW);
            refused(2, "feed(" + v + ") of 96", RefusalsTest::of96Letters, x -> x.feed(v), BELOW);
        }
        for (int v : above(255)) {
            refused(2, "feed(" + v + ")", x -> x.feed(v), ROOM);
            refused(2, "feed(" + v + ") of 96", RefusalsTest::of96Letters, x -> x.feed(v), ROOM);
        }
        for (int v : new int[] {0, ';', 255}) {
            refused(2, "feed(" + v + ") of 96", RefusalsTest::of96Letters, x -> x.feed(v), ROOM);
        }
    }

    private static void whatThereIs() {
        for (int m : NO_MAN) {
            for (int what : new int[] {0, 5, -1, 6}) {
                refused(4, "manOf(" + m + ", " + what + ")", x -> x.manOf(m, what), NOBODY);
            }
            refused(7, "pardons(" + m + ")", x -> x.pardons(m), NOBODY);
            refused(30, "spare(" + m + ")", x -> x.spare(m), NOBODY);
            if (m != -1) {
                refused(16, "dies(" + m + ")", x -> x.dies(m), NOBODY);
            }
        }
        refused(4, "manOf(8, 0) of eight", RefusalsTest::ofEightMen, x -> x.manOf(8, 0), NOBODY);
        refused(7, "pardons(8) of eight", RefusalsTest::ofEightMen, x -> x.pardons(8), NOBODY);
        refused(16, "dies(8) of eight", RefusalsTest::ofEightMen, x -> x.dies(8), NOBODY);
        refused(30, "spare(8) of eight", RefusalsTest::ofEightMen, x -> x.spare(8), NOBODY);
        for (int what : noWhatAbove(5)) {
            refused(4, "manOf(0, " + what + ")", x -> x.manOf(0, what), OTHER);
            refused(4, "manOf(4, " + what + ")", x -> x.manOf(4, what), OTHER);
            refused(33, "shoulders(" + what + ")", x -> x.shoulders(what), OTHER);
        }
        for (int s : NO_STAGE) {
            refused(5, "slope(" + s + ")", x -> x.slope(s), NOBODY);
        }
        refused(7, "pardons of one DEAD", x -> x.pardons(0), STATE);
    }

    private static void aManMore() {
        for (int kind : noWhatAbove(5)) {
            for (int figure : new int[] {0, -1, 10}) {
                String call = "man(" + kind + ", " + figure + ")";
                refused(6, call, x -> x.man(kind, figure), OTHER);
                refused(6, call + " of eight", RefusalsTest::ofEightMen, x -> x.man(kind, figure), OTHER);
            }
        }
        for (int figure : NEGATIVE) {
            String call = "man(5, " + figure + ")";
            refused(6, call, x -> x.man(5, figure), BELOW);
            refused(6, call + " of eight", RefusalsTest::ofEightMen, x -> x.man(5, figure), BELOW);
        }
        for (int figure : above(9)) {
            String call = "man(0, " + figure + ")";
            refused(6, call, x -> x.man(0, figure), ROOM);
            refused(6, call + " of eight", RefusalsTest::ofEightMen, x -> x.man(0, figure), ROOM);
        }
        refused(6, "man(0, 0) of eight", RefusalsTest::ofEightMen, x -> x.man(0, 0), ROOM);
        refused(6, "man(5, 9) of eight", RefusalsTest::ofEightMen, x -> x.man(5, 9), ROOM);
    }

    private static void changes() {
        for (int s : NO_STAGE) {
            for (int v : new int[] {0, -1, 10}) {
                refused(8, "slopes(" + s + ", " + v + ")", x -> x.slopes(s, v), NOBODY);
            }
        }
        for (int v : NEGATIVE) {
            refused(8, "slopes(0, " + v + ")", x -> x.slopes(0, v), BELOW);
            refused(8, "slopes(11, " + v + ")", x -> x.slopes(11, v), BELOW);
            refused(10, "snows(" + v + ")", x -> x.snows(v), BELOW);
        }
        for (int v : above(9)) {
            refused(8, "slopes(0, " + v + ")", x -> x.slopes(0, v), ROOM);
            refused(8, "slopes(11, " + v + ")", x -> x.slopes(11, v), ROOM);
            refused(10, "snows(" + v + ")", x -> x.snows(v), ROOM);
        }
        for (int v : below(1)) {
            refused(9, "loads(" + v + ")", x -> x.loads(v), BELOW);
            refused(11, "days(" + v + ")", x -> x.days(v), BELOW);
            refused(11, "days(" + v + ") on 999", () -> onDay(999), x -> x.days(v), BELOW);
        }
        for (int v : above(60)) {
            refused(9, "loads(" + v + ")", x -> x.loads(v), ROOM);
            refused(11, "days(" + v + ")", x -> x.days(v), ROOM);
        }
        refused(11, "days(1) on 999", () -> onDay(999), x -> x.days(1), ROOM);
        refused(11, "days(2) on 998", () -> onDay(998), x -> x.days(2), ROOM);
        refused(11, "days(60) on 940", () -> onDay(940), x -> x.days(60), ROOM);
        refused(12, "back()", RefusalsTest::withNothingToTakeBack, x -> x.back(), STATE);
        refused(12, "back() of a new one", CarriedHome::new, x -> x.back(), STATE);
        refused(39, "restore()", CarriedHome::new, x -> x.restore(), STATE);
    }

    private static void daysInMind() {
        for (int n : NEGATIVE) {
            refused(13, "then(" + n + ", 3)", x -> x.then(n, 3), BELOW);
            refused(13, "then(" + n + ", 0)", x -> x.then(n, 0), BELOW);
            refused(14, "wornIn(0, " + n + ")", x -> x.wornIn(0, n), BELOW);
            refused(17, "mercy(" + n + ")", x -> x.mercy(n), BELOW);
            refused(18, "fewest(" + n + ")", x -> x.fewest(n), BELOW);
            refused(19, "crown(" + n + ")", x -> x.crown(n), BELOW);
            refused(20, "dig(" + n + ")", x -> x.dig(n), BELOW);
            refused(21, "keep(" + n + ", 2)", x -> x.keep(n, 2), BELOW);
            refused(21, "keep(" + n + ", 0)", x -> x.keep(n, 0), BELOW);
            refused(32, "eased(" + n + ")", x -> x.eased(n), BELOW);
        }
        for (int n : above(60)) {
            refused(13, "then(" + n + ", 3)", x -> x.then(n, 3), ROOM);
            refused(13, "then(" + n + ", 0)", x -> x.then(n, 0), ROOM);
            refused(14, "wornIn(0, " + n + ")", x -> x.wornIn(0, n), ROOM);
            refused(17, "mercy(" + n + ")", x -> x.mercy(n), ROOM);
            refused(18, "fewest(" + n + ")", x -> x.fewest(n), ROOM);
            refused(19, "crown(" + n + ")", x -> x.crown(n), ROOM);
            refused(20, "dig(" + n + ")", x -> x.dig(n), ROOM);
            refused(21, "keep(" + n + ", 2)", x -> x.keep(n, 2), ROOM);
            refused(21, "keep(" + n + ", 0)", x -> x.keep(n, 0), ROOM);
            refused(32, "eased(" + n + ")", x -> x.eased(n), ROOM);
        }
        for (int what : noWhatAbove(2)) {
            refused(13, "then(0, " + what + ")", x -> x.then(0, what), OTHER);
            refused(13, "then(60, " + what + ")", x -> x.then(60, what), OTHER);
        }
        for (int what : noWhatAbove(1)) {
            refused(15, "home(" + what + ")", x -> x.home(what), OTHER);
            refused(21, "keep(0, " + what + ")", x -> x.keep(0, what), OTHER);
            refused(21, "keep(60, " + what + ")", x -> x.keep(60, what), OTHER);
        }
        for (int m : NO_MAN) {
            for (int n : new int[] {0, -1, 61}) {
                refused(14, "wornIn(" + m + ", " + n + ")", x -> x.wornIn(m, n), NOBODY);
            }
        }
    }

    private static void whoAndTwo() {
        for (int m : NO_MAN) {
            for (int what : new int[] {0, 1, -1, 2}) {
                refused(24, "whatKind(" + m + ", " + what + ")", x -> x.whatKind(m, what), NOBODY);
            }
            for (int n : new int[] {0, -1, 61}) {
                refused(25, "two(" + m + ", 1, " + n + ")", x -> x.two(m, 1, n), NOBODY);
                refused(25, "two(1, " + m + ", " + n + ")", x -> x.two(1, m, n), NOBODY);
                refused(25, "two(0, " + m + ", " + n + ")", x -> x.two(0, m, n), NOBODY);
                refused(25, "two(" + m + ", 3, " + n + ")", x -> x.two(m, 3, n), NOBODY);
                refused(25, "two(" + m + ", " + m + ", " + n + ")", x -> x.two(m, m, n), NOBODY);
            }
        }
        for (int m = 0; m < 5; m++) {
            int one = m;
            for (int n : new int[] {0, -1, 61}) {
                refused(25, "two(" + m + ", " + m + ", " + n + ")", x -> x.two(one, one, n), NOBODY);
            }
        }
        for (int what : noWhatAbove(1)) {
            refused(24, "whatKind(0, " + what + ")", x -> x.whatKind(0, what), OTHER);
            refused(24, "whatKind(4, " + what + ")", x -> x.whatKind(4, what), OTHER);
        }
        int[][] pairs = {{1, 2}, {0, 2}, {1, 0}, {3, 1}, {2, 4}, {0, 3}, {3, 4}};
        for (int i = 0; i < pairs.length; i++) {
            int one = pairs[i][0];
            int other = pairs[i][1];
            String call = "two(" + one + ", " + other + ", ";
            for (int n : NEGATIVE) {
                refused(25, call + n + ")", x -> x.two(one, other, n), BELOW);
            }
            for (int n : above(60)) {
                refused(25, call + n + ")", x -> x.two(one, other, n), ROOM);
            }
            if (i > 0) {
                refused(25, call + "0)", x -> x.two(one, other, 0), STATE);
                refused(25, call + "60)", x -> x.two(one, other, 60), STATE);
            }
        }
    }

    private static void odds() {
        int[][] tooSmall = {{-1, 2, 0}, {LEAST, 2, 0}, {0, 1, 0}, {0, 0, 0}, {0, -1, 0}, {0, LEAST, 0}, {0, 2, -1},
            {0, 2, LEAST}, {-1, 21, 0}, {-1, 2, 13}, {8, 1, 0}, {0, 1, 13}, {8, 2, -1}, {0, 21, -1}, {8, 1, 13},
            {-1, 21, 13}, {8, 21, -1}, {-1, 1, -1}};
        for (int[] a : tooSmall) {
            for (int part : new int[] {0, 1, 2, -1}) {
                refused(26, "falls(" + a[0] + ", " + a[1] + ", " + a[2] + ", " + part + ")",
                        x -> x.falls(a[0], a[1], a[2], part), BELOW);
            }
        }
        int[][] tooGreat = {{8, 2, 0}, {GREATEST, 2, 0}, {0, 21, 0}, {0, GREATEST, 0}, {0, 2, 13},
            {0, 2, GREATEST}, {8, 21, 13}};
        for (int[] a : tooGreat) {
            for (int part : new int[] {0, 1, 2, -1}) {
                refused(26, "falls(" + a[0] + ", " + a[1] + ", " + a[2] + ", " + part + ")",
                        x -> x.falls(a[0], a[1], a[2], part), ROOM);
            }
        }
        for (int part : noWhatAbove(1)) {
            refused(26, "falls(0, 2, 0, " + part + ")", x -> x.falls(0, 2, 0, part), OTHER);
            refused(26, "falls(7, 20, 12, " + part + ")", x -> x.falls(7, 20, 12, part), OTHER);
            refused(29, "mean(" + part + ")", x -> x.mean(part), OTHER);
        }
    }

    private static void numbersAsked() {
        for (int what : noWhatAbove(3)) {
            refused(22, "pairs(" + what + ")", x -> x.pairs(what), OTHER);
            refused(28, "strongest(" + what + ")", x -> x.strongest(what), OTHER);
        }
        for (int what : noWhatAbove(2)) {
            refused(31, "height(" + what + ")", x -> x.height(what), OTHER);
        }
        for (int n : below(1)) {
            refused(27, "shares(" + n + ", 0)", x -> x.shares(n, 0), BELOW);
            refused(27, "shares(" + n + ", 2)", x -> x.shares(n, 2), BELOW);
            refused(37, "lots(" + n + ", 0, 0)", x -> x.lots(n, 0, 0), BELOW);
            refused(37, "lots(" + n + ", 0, 2)", x -> x.lots(n, 0, 2), BELOW);
        }
        for (int n : above(9)) {
            refused(27, "shares(" + n + ", 1)", x -> x.shares(n, 1), ROOM);
            refused(27, "shares(" + n + ", -1)", x -> x.shares(n, -1), ROOM);
        }
        for (int n : above(20)) {
            refused(37, "lots(" + n + ", -7, 1)", x -> x.lots(n, -7, 1), ROOM);
            refused(37, "lots(" + n + ", -7, -1)", x -> x.lots(n, -7, -1), ROOM);
        }
        for (int what : noWhatAbove(1)) {
            refused(27, "shares(1, " + what + ")", x -> x.shares(1, what), OTHER);
            refused(27, "shares(9, " + what + ")", x -> x.shares(9, what), OTHER);
            refused(37, "lots(1, 5, " + what + ")", x -> x.lots(1, 5, what), OTHER);
            refused(37, "lots(20, 5, " + what + ")", x -> x.lots(20, 5, what), OTHER);
        }
    }

    private static void aRowMore() {
        for (int v : NEGATIVE) {
            refused(34, "row(" + v + ")", x -> x.row(v), BELOW);
            refused(34, "row(" + v + ") of 12", RefusalsTest::ofFullRow, x -> x.row(v), BELOW);
        }
        for (int v : above(99)) {
            refused(34, "row(" + v + ")", x -> x.row(v), ROOM);
            refused(34, "row(" + v + ") of 12", RefusalsTest::ofFullRow, x -> x.row(v), ROOM);
        }
        refused(34, "row(0) of 12", RefusalsTest::ofFullRow, x -> x.row(0), ROOM);
        refused(34, "row(99) of 12", RefusalsTest::ofFullRow, x -> x.row(99), ROOM);
    }

    /** Calls that answer a fault, -9 or nothing special are no refusals. */
    private static void whatIsNoRefusal() {
        CarriedHome x = new CarriedHome();
        x.reign();
        x.feed('x');
        x.reign();
        x.feed('p');
        x.feed('0');
        x.feed(';');
        x.reign();
        x.home(0);
        x.dies(-1);
        x.mercy(60);
        x.fewest(60);
        x.crown(60);
        x.dig(60);
        x.keep(60, 0);
        x.keep(60, 1);
        x.pairs(1);
        x.pairs(3);
        x.strongest(0);
        x.height(1);
        x.eased(60);
        x.judge();
        for (int what = -1; what <= 18; what++) {
            x.count(what);
        }
        for (int what = 11; what <= 16; what++) {
            if (x.count(what) != 0) {
                fault("count(" + what + ") is " + x.count(what) + " without refusals");
            }
        }
    }

    /** Each number that the line of a promise tells has been tested here. */
    private static void looksAtTheDocument() throws IOException {
        Path document = Path.of("..", "shared", "DOC.md");
        Matcher line = Pattern.compile("## Promise (\\d+): .*\n\n(.*)\n").matcher(Files.readString(document));
        int promises = 0;
        while (line.find()) {
            promises++;
            Matcher number = Pattern.compile("-[12346]\\b").matcher(line.group(2));
            while (number.find() && promises < 40) {
                if (!tested.contains(line.group(1) + ": " + number.group())) {
                    fault("promise " + line.group(1) + ": no test of " + number.group());
                }
            }
        }
        if (promises != 40) {
            fault("the document has " + promises + " promises");
        }
    }

    public static void main(String[] args) throws IOException {
        feed();
        whatThereIs();
        aManMore();
        changes();
        daysInMind();
        whoAndTwo();
        odds();
        numbersAsked();
        aRowMore();
        whatIsNoRefusal();
        looksAtTheDocument();
        System.out.println(wrong == 0 ? "all refusals are as told" : wrong + " faults");
        if (wrong != 0) {
            System.exit(1);
        }
    }
}
