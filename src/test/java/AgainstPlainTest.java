import java.lang.reflect.InvocationTargetException;
import java.lang.reflect.Method;
import java.lang.reflect.Modifier;
import java.math.BigInteger;
import java.util.ArrayDeque;
import java.util.ArrayList;
import java.util.Arrays;
import java.util.Comparator;
import java.util.Deque;
import java.util.HashMap;
import java.util.List;
import java.util.Map;
import java.util.Random;
import java.util.TreeMap;
import java.util.regex.Matcher;
import java.util.regex.Pattern;
import java.util.stream.Collectors;
import java.util.stream.IntStream;

/**
 * Runs of calls on a CarriedHome and on Plain, a second writing of ../shared/DOC.md that cares for its words
 * alone (kinds are classes, one under the other; each day in mind is lived on a copy): their answers are alike.
 */
public final class AgainstPlainTest {

    private static final int RUNS = 500;
    private static final int CALLS = 300;

    // The kinds of men.

    private static class Man implements Cloneable {
        int kind;
        int figure;
        int fate = 0;
        int worn = 0;

        int bears() {
            return 3 + figure / 2;
        }

        int wears(int slope, boolean withFeud) {
            return slope + 1;
        }

        int lasts() {
            return 12;
        }

        Man copy() {
            try {
                return (Man) clone();
            } catch (CloneNotSupportedException e) {
                throw new IllegalStateException(e);
            }
        }

        Man as(int otherKind, int otherFigure) {
            Man m = of(otherKind, otherFigure);
            m.fate = fate;
            m.worn = worn;
            return m;
        }

        static Man of(int kind, int figure) {
            Man m = List.of(new Man(), new Thief(), new Killer(), new Forger(), new Feudist(), new Silent()).get(kind);
            m.kind = kind;
            m.figure = figure;
            return m;
        }
    }

    private static class Thief extends Man {
        @Override
        int bears() {
            return super.bears() - 1;
        }

        @Override
        int wears(int slope, boolean withFeud) {
            return slope;
        }

        @Override
        int lasts() {
            return super.lasts() + 3;
        }
    }

    private static class Killer extends Man {
        @Override
        int bears() {
            return super.bears() + figure;
        }

        @Override
        int wears(int slope, boolean withFeud) {
            return super.wears(slope, withFeud) / 2;
        }

        @Override
        int lasts() {
            return figure + super.lasts();
        }
    }

    private static class Forger extends Thief {
        @Override
        int bears() {
            return super.bears() / 2;
        }

        @Override
        int wears(int slope, boolean withFeud) {
            return super.wears(slope, withFeud) + 2;
        }

        @Override
        int lasts() {
            return 5;
        }
    }

    private static class Feudist extends Killer {
        @Override
        int bears() {
            return super.bears() + 2;
        }

        @Override
        int wears(int slope, boolean withFeud) {
            return withFeud ? 0 : super.wears(slope, withFeud);
        }
    }

    private static class Silent extends Feudist {
        @Override
        int bears() {
            return worn >= 10 ? super.bears() / 2 : super.bears();
        }

        @Override
        int wears(int slope, boolean withFeud) {
            return 1;
        }

        @Override
        int lasts() {
            return 2 * super.lasts();
        }
    }

    /** All that there is of I but image, letters, row and refusals. */
    private static final class State {
        int[] slopes = new int[12];
        int king = 0;
        int load = 12;
        int snow = 0;
        int day = 0;
        List<Man> men = new ArrayList<>();

        State() {
            Arrays.fill(slopes, 1);
        }

        State copy() {
            State s = new State();
            s.slopes = slopes.clone();
            s.king = king;
            s.load = load;
            s.snow = snow;
            s.day = day;
            s.men = men.stream().map(Man::copy).collect(Collectors.toCollection(ArrayList::new));
            return s;
        }

        int needed() {
            return king == 12 ? load + snow : load + slopes[king] + snow;
        }

        int bits(int fate) {
            return IntStream.range(0, men.size()).filter(m -> men.get(m).fate == fate).map(m -> 1 << m).sum();
        }

        int together(int bits) {
            return IntStream.range(0, men.size()).filter(m -> (bits >> m & 1) == 1).map(m -> men.get(m).bears()).sum();
        }

        List<Integer> pardonedByStrength() {
            return IntStream.range(0, men.size()).filter(m -> men.get(m).fate == 1).boxed()
                    .sorted(Comparator.comparingInt((Integer m) -> -men.get(m).bears()).thenComparingInt(m -> m))
                    .collect(Collectors.toList());
        }

        int bearers() {
            if (king == 12 || together(bits(1)) < needed()) {
                return 0;
            }
            int bits = 0;
            for (int m : pardonedByStrength()) {
                if (together(bits) < needed()) {
                    bits |= 1 << m;
                }
            }
            return bits;
        }

        State aDayOn() {
            State s = copy();
            s.day++;
            if (king == 12) {
                return s;
            }
            int bits = bearers();
            if (bits != 0) {
                s.king++;
                for (int m = 0; m < men.size(); m++) {
                    Man it = s.men.get(m);
                    if ((bits >> m & 1) == 1) {
                        int one = m;
                        boolean withFeud = IntStream.range(0, men.size()).anyMatch(
                                o -> o != one && (bits >> o & 1) == 1 && men.get(o) instanceof Feudist);
                        it.worn = Math.min(99, it.worn + it.wears(slopes[king], withFeud));
                    }
                    if (it.worn >= it.lasts()) {
                        it.fate = 2;
                    }
                }
            }
            s.snow = Math.max(0, snow - 1);
            return s;
        }

        List<State> daysOn(int n) {
            List<State> days = new ArrayList<>();
            days.add(this);
            for (int d = 0; d < n; d++) {
                days.add(days.get(d).aDayOn());
            }
            return days;
        }

        State on(int n) {
            return daysOn(n).get(n);
        }

        State with(int m, int fate) {
            State s = copy();
            s.men.get(m).fate = fate;
            return s;
        }
    }

    /** The face of the class, by the words of the document. Its methods are called by their names. */
    public static final class Plain {
        private State now = new State();
        private State image = null;
        private final Deque<State> kept = new ArrayDeque<>();
        private StringBuilder letters = new StringBuilder();
        private List<Integer> row = new ArrayList<>();
        private final int[] refusals = new int[7];

        private int no(int number) {
            refusals[-number]++;
            return number;
        }

        private boolean isMan(int m) {
            return m >= 0 && m < now.men.size();
        }

        private void keeps() {
            kept.addLast(now.copy());
            if (kept.size() > 8) {
                kept.removeFirst();
            }
        }

        /** The refusal of a number, or 0. */
        private int range(int n, int least, int greatest) {
            return n < least ? no(-4) : n > greatest ? no(-6) : 0;
        }

        public int feed(int letter) {
            if (letter < 0) {
                return no(-4);
            }
            if (letter > 255 || letters.length() == 96) {
                return no(-6);
            }
            return letters.append((char) letter).length();
        }

        private static final Pattern REIGN = Pattern.compile(
                "(?:m[0-9]{2};|p[0-9];|s[0-9]{3};|l[0-9]{2};|k[0-9]{2};|w[0-9];|d[0-9]{2};)+");

        public int reign() {
            String text = letters.toString();
            letters = new StringBuilder();
            for (int end = 1; end <= text.length(); end++) {
                Matcher m = REIGN.matcher(text.substring(0, end));
                if (!m.matches() && !m.hitEnd()) {
                    return -1000 - (end - 1);
                }
            }
            if (!REIGN.matcher(text).matches()) {
                return -1000 - text.length();
            }
            State s = now.copy();
            int place = 0;
            int told = 0;
            for (String statement : text.split(";")) {
                State next = after(s, statement.charAt(0), statement.substring(1));
                if (next == null) {
                    return -2000 - place;
                }
                s = next;
                place += statement.length() + 1;
                told++;
            }
            now = s;
            kept.clear();
            return told;
        }

        private static State after(State s, char letter, String digits) {
            int number = Integer.parseInt(digits);
            if (letter == 'm' && number / 10 <= 5 && s.men.size() < 8) {
                s.men.add(Man.of(number / 10, number % 10));
                return s;
            }
            if (letter == 'p' && number < s.men.size() && s.men.get(number).fate != 2) {
                s.men.get(number).fate = 1 - s.men.get(number).fate;
                return s;
            }
            if (letter == 's' && number / 10 <= 11) {
                s.slopes[number / 10] = number % 10;
                return s;
            }
            if (letter == 'l' && number >= 1 && number <= 60) {
                s.load = number;
                return s;
            }
            if (letter == 'k' && number <= 12) {
                s.king = number;
                return s;
            }
            if (letter == 'w') {
                s.snow = number;
                return s;
            }
            return letter == 'd' && number >= 1 && number <= 60 && s.day + number <= 999 ? s.on(number) : null;
        }

        public int manOf(int man, int what) {
            if (!isMan(man)) {
                return no(-1);
            }
            if (what < 0 || what > 5) {
                return no(-2);
            }
            Man m = now.men.get(man);
            return new int[] {m.kind, m.figure, m.fate, m.worn, m.bears(), m.lasts()}[what];
        }

        public int slope(int stage) {
            return stage < 0 || stage > 11 ? no(-1) : now.slopes[stage];
        }

        public int man(int kind, int figure) {
            if (kind < 0 || kind > 5) {
                return no(-2);
            }
            if (figure < 0) {
                return no(-4);
            }
            if (figure > 9 || now.men.size() == 8) {
                return no(-6);
            }
            now.men.add(Man.of(kind, figure));
            kept.clear();
            return now.men.size() - 1;
        }

        public int pardons(int man) {
            if (!isMan(man)) {
                return no(-1);
            }
            if (now.men.get(man).fate == 2) {
                return no(-3);
            }
            keeps();
            return now.men.get(man).fate = 1 - now.men.get(man).fate;
        }

        public int slopes(int stage, int v) {
            if (stage < 0 || stage > 11) {
                return no(-1);
            }
            int refused = range(v, 0, 9);
            if (refused != 0) {
                return refused;
            }
            keeps();
            int was = now.slopes[stage];
            now.slopes[stage] = v;
            return was;
        }

        public int loads(int v) {
            int refused = range(v, 1, 60);
            if (refused != 0) {
                return refused;
            }
            keeps();
            int was = now.load;
            now.load = v;
            return was;
        }

        public int snows(int v) {
            int refused = range(v, 0, 9);
            if (refused != 0) {
                return refused;
            }
            kept.clear();
            int was = now.snow;
            now.snow = v;
            return was;
        }

        public int days(int n) {
            int refused = range(n, 1, 60);
            if (refused != 0) {
                return refused;
            }
            if (now.day + n > 999) {
                return no(-6);
            }
            keeps();
            now = now.on(n);
            return now.king;
        }

        public int back() {
            if (kept.isEmpty()) {
                return no(-3);
            }
            now = kept.removeLast();
            return kept.size();
        }

        public int then(int n, int what) {
            int refused = range(n, 0, 60);
            if (refused != 0) {
                return refused;
            }
            if (what < 0 || what > 2) {
                return no(-2);
            }
            List<State> days = now.daysOn(n);
            long waits = days.subList(0, n).stream().filter(s -> s.king < 12 && s.bearers() == 0).count();
            return new int[] {days.get(n).king, days.get(n).bits(2), (int) waits}[what];
        }

        public int wornIn(int man, int n) {
            if (!isMan(man)) {
                return no(-1);
            }
            int refused = range(n, 0, 60);
            return refused != 0 ? refused : now.on(n).men.get(man).worn;
        }

        public int home(int what) {
            if (what < 0 || what > 1) {
                return no(-2);
            }
            List<State> days = now.daysOn(60);
            return what == 1 ? now.bearers()
                    : IntStream.rangeClosed(0, 60).filter(d -> days.get(d).king == 12).findFirst().orElse(-9);
        }

        private int diesBehind(int man) {
            List<State> days = now.daysOn(60);
            return IntStream.rangeClosed(0, 60).filter(d -> days.get(d).men.get(man).fate == 2).findFirst().orElse(-9);
        }

        public int dies(int man) {
            if (man == -1) {
                return IntStream.range(0, now.men.size())
                        .filter(m -> now.men.get(m).fate == 1 && diesBehind(m) != -9).boxed()
                        .min(Comparator.comparingInt((Integer m) -> diesBehind(m)).thenComparingInt(m -> m)).orElse(-9);
            }
            return isMan(man) ? diesBehind(man) : no(-1);
        }

        private List<Integer> menWho(int fate) {
            return IntStream.range(0, now.men.size()).filter(m -> now.men.get(m).fate == fate).boxed()
                    .collect(Collectors.toList());
        }

        public int mercy(int n) {
            int refused = range(n, 0, 60);
            if (refused != 0) {
                return refused;
            }
            int else_ = now.on(n).king;
            return menWho(0).stream().filter(m -> now.with(m, 1).on(n).king > else_)
                    .max(Comparator.comparingInt((Integer m) -> now.with(m, 1).on(n).king).thenComparingInt(m -> -m))
                    .orElse(-9);
        }

        private static List<Integer> setsWithin(int bits) {
            return IntStream.range(0, 256).filter(b -> (b & ~bits) == 0).boxed()
                    .sorted(Comparator.comparingInt((Integer b) -> Integer.bitCount(b)).thenComparingInt(b -> b))
                    .collect(Collectors.toList());
        }

        public int fewest(int n) {
            int refused = range(n, 0, 60);
            if (refused != 0) {
                return refused;
            }
            for (int set : setsWithin(now.bits(0))) {
                State s = now.copy();
                menWho(0).stream().filter(m -> (set >> m & 1) == 1).forEach(m -> s.men.get(m).fate = 1);
                if (s.on(n).king == 12) {
                    return set;
                }
            }
            return -9;
        }

        public int crown(int n) {
            int refused = range(n, 0, 60);
            if (refused != 0) {
                return refused;
            }
            return IntStream.rangeClosed(1, 60).filter(load -> {
                State s = now.copy();
                s.load = load;
                return s.on(n).king == 12;
            }).max().orElse(-9);
        }

        private State dug(int stage) {
            State s = now.copy();
            s.slopes[stage] = 0;
            return s;
        }

        public int dig(int n) {
            int refused = range(n, 0, 60);
            if (refused != 0) {
                return refused;
            }
            int else_ = now.on(n).king;
            int farthest = IntStream.range(0, 12).map(s -> dug(s).on(n).king).max().orElse(0);
            return farthest <= else_ ? -9
                    : IntStream.range(0, 12).filter(s -> dug(s).on(n).king == farthest).findFirst().orElse(-9);
        }

        public int keep(int n, int what) {
            int refused = range(n, 0, 60);
            if (refused != 0) {
                return refused;
            }
            if (what < 0 || what > 1) {
                return no(-2);
            }
            Map<Integer, Integer> whoByWhere = new TreeMap<>();
            menWho(1).forEach(m -> whoByWhere.putIfAbsent(-now.with(m, 0).on(n).king, m));
            if (whoByWhere.isEmpty()) {
                return -9;
            }
            Map.Entry<Integer, Integer> best = whoByWhere.entrySet().iterator().next();
            return what == 0 ? best.getValue() : -best.getKey();
        }

        public int pairs(int what) {
            Map<Integer, Integer> ofStrength = new HashMap<>();
            menWho(1).forEach(m -> ofStrength.merge(now.men.get(m).bears(), 1, Integer::sum));
            switch (what) {
                case 0:
                    return ofStrength.values().stream().mapToInt(v -> v / 2).sum();
                case 1:
                    return setsWithin(now.bits(1)).stream().filter(b -> now.together(b) >= now.needed()).findFirst()
                            .orElse(-9);
                case 2:
                    return (int) menWho(1).stream().filter(m -> now.men.get(m).worn > 0).count();
                case 3:
                    return now.together(now.bits(1)) - now.needed();
                default:
                    return 1000000000 - no(-2);
            }
        }

        public int whoBore() {
            return menWho(0).stream().filter(m -> {
                List<State> days = now.with(m, 1).daysOn(12);
                return IntStream.range(0, row.size()).allMatch(d -> days.get(d).king == row.get(d));
            }).mapToInt(m -> 1 << m).sum();
        }

        private boolean isWornSo(int man, Man other) {
            State s = now.copy();
            s.men.set(man, other);
            List<State> days = s.daysOn(12);
            return IntStream.range(0, row.size()).allMatch(d -> days.get(d).men.get(man).worn == row.get(d));
        }

        public int whatKind(int man, int what) {
            if (!isMan(man)) {
                return no(-1);
            }
            if (what < 0 || what > 1) {
                return no(-2);
            }
            Man m = now.men.get(man);
            return what == 0
                    ? IntStream.range(0, 6).filter(k -> isWornSo(man, m.as(k, m.figure))).map(k -> 1 << k).sum()
                    : IntStream.range(0, 10).filter(f -> isWornSo(man, m.as(m.kind, f))).map(f -> 1 << f).sum();
        }

        private int has(int who, int one, int other, int n, int ofOne, int ofOther) {
            State s = now.with(one, ofOne).with(other, ofOther).on(n);
            return (s.king == 12 ? 3 : 0) - s.men.get(who).worn / 4;
        }

        public int two(int one, int other, int n) {
            if (!isMan(one) || !isMan(other) || one == other) {
                return no(-1);
            }
            int refused = range(n, 0, 60);
            if (refused != 0) {
                return refused;
            }
            if (now.men.get(one).fate != 0 || now.men.get(other).fate != 0) {
                return no(-3);
            }
            for (int a = 0; a < 2; a++) {
                for (int b = 0; b < 2; b++) {
                    boolean oneStays = has(one, one, other, n, 1 - a, b) <= has(one, one, other, n, a, b);
                    boolean otherStays = has(other, one, other, n, a, 1 - b) <= has(other, one, other, n, a, b);
                    if (oneStays && otherStays) {
                        return 10 * a + b;
                    }
                }
            }
            return -9;
        }

        /** Of t to the n ways. */
        private static BigInteger ways(State s, int n, int t, int v) {
            if (n == 0) {
                return s.king >= v ? BigInteger.ONE : BigInteger.ZERO;
            }
            State snowed = s.copy();
            snowed.snow = Math.min(9, s.snow + 4);
            return ways(snowed.aDayOn(), n - 1, t, v)
                    .add(ways(s.aDayOn(), n - 1, t, v).multiply(BigInteger.valueOf(t - 1)));
        }

        private static long lowest(BigInteger above, BigInteger below, int part) {
            BigInteger by = above.gcd(below);
            return (part == 0 ? above : below).divide(by).longValueExact();
        }

        public long falls(int n, int t, int v, int part) {
            if (n < 0 || t < 2 || v < 0) {
                return 4000000000000000000L - no(-4);
            }
            if (n > 7 || t > 20 || v > 12) {
                return 4000000000000000000L - no(-6);
            }
            if (part < 0 || part > 1) {
                return 4000000000000000000L - no(-2);
            }
            return lowest(ways(now, n, t, v), BigInteger.valueOf(t).pow(n), part);
        }

        public int shares(int n, int what) {
            int refused = range(n, 1, 9);
            if (refused != 0) {
                return refused;
            }
            return what == 0 ? now.needed() / n : what == 1 ? now.needed() - now.needed() / n * n : no(-2);
        }

        public int strongest(int what) {
            switch (what) {
                case 0:
                    return now.pardonedByStrength().stream().findFirst().orElse(-9);
                case 1:
                    int most = Arrays.stream(now.slopes).max().orElse(0);
                    return IntStream.range(0, 12).filter(s -> now.slopes[s] == most).findFirst().orElse(-9);
                case 2:
                    return 12 - now.king;
                case 3:
                    return menWho(0).size();
                default:
                    return no(-2);
            }
        }

        public long mean(int part) {
            if (part < 0 || part > 1) {
                return 4000000000000000000L - no(-2);
            }
            int left = 12 - now.king;
            return left == 0 ? part : lowest(BigInteger.valueOf(height(0)), BigInteger.valueOf(left), part);
        }

        public int spare(int man) {
            return isMan(man) ? Math.max(0, now.men.get(man).lasts() - now.men.get(man).worn) : no(-1);
        }

        public int height(int what) {
            switch (what) {
                case 0:
                    return IntStream.range(now.king, 12).map(s -> now.slopes[s]).sum();
                case 1:
                    return IntStream.range(now.king, 12)
                            .filter(s -> now.together(now.bits(1)) < now.load + now.slopes[s]).findFirst().orElse(-9);
                case 2:
                    String days = now.daysOn(59).stream().map(s -> s.king < 12 && s.bearers() == 0 ? "w" : " ")
                            .collect(Collectors.joining());
                    return Arrays.stream(days.split(" ")).mapToInt(String::length).max().orElse(0);
                default:
                    return no(-2);
            }
        }

        public int eased(int n) {
            int refused = range(n, 0, 60);
            if (refused != 0) {
                return 1000000000 - refused;
            }
            State s = now.copy();
            s.snow = 0;
            return s.on(n).king - now.on(n).king;
        }

        public int shoulders(int kind) {
            return kind < 0 || kind > 5 ? no(-2)
                    : (int) menWho(1).stream().filter(m -> now.men.get(m).kind == kind).count();
        }

        public int row(int v) {
            if (v < 0) {
                return no(-4);
            }
            if (v > 99 || row.size() == 12) {
                return no(-6);
            }
            row.add(v);
            return row.size();
        }

        public int judge() {
            List<Integer> told = row;
            row = new ArrayList<>();
            return IntStream.range(0, told.size())
                    .filter(i -> !isMan(i) || now.men.get(i).worn != told.get(i)).findFirst().orElse(-9);
        }

        public int clear() {
            int had = row.size();
            row = new ArrayList<>();
            return had;
        }

        public int lots(int n, int z, int what) {
            int refused = range(n, 1, 20);
            if (refused != 0) {
                return refused;
            }
            if (what < 0 || what > 1) {
                return no(-2);
            }
            BigInteger seed = BigInteger.valueOf(z);
            int sum = 0;
            for (int i = 0; i < n; i++) {
                State s = now.copy();
                for (int stage = 0; stage < 12; stage++) {
                    seed = BigInteger.valueOf(
                            seed.multiply(BigInteger.valueOf(1103515245)).add(BigInteger.valueOf(12345)).intValue());
                    s.slopes[stage] = seed.mod(BigInteger.TWO.pow(31)).divide(BigInteger.valueOf(65536))
                            .mod(BigInteger.TEN).intValue();
                }
                State then = s.on(15);
                sum += what == 0 ? then.king - now.king : Integer.bitCount(then.bits(2));
            }
            return sum;
        }

        public int image() {
            image = now.copy();
            return now.day;
        }

        public int restore() {
            if (image == null) {
                return no(-3);
            }
            now = image.copy();
            kept.clear();
            return now.day;
        }

        public int count(int what) {
            if (what >= 11 && what <= 16) {
                return refusals[what - 10];
            }
            int[] counts = {now.men.size(), now.day, now.king, now.load, now.snow, now.bits(1), now.bits(2),
                letters.length(), row.size(), kept.size()};
            return what >= 0 && what < counts.length ? counts[what] : -9;
        }
    }

    // The runs.

    private static final Random draw = new Random(20261118L);
    private static int wrong = 0;
    private static CarriedHome home;
    private static Plain plain;
    private static final List<String> calls = new ArrayList<>();

    /** Of each method how often it is called, and below what its arguments mostly are. */
    private static final String[] FACE = {"feed 1 128", "reign 1", "manOf 2 8 6", "slope 1 12", "man 2 6 10",
        "pardons 8 8", "slopes 4 12 10", "loads 4 40", "snows 3 10", "days 3 6", "back 2", "then 4 30 3",
        "wornIn 3 8 30", "home 4 2", "dies 4 9", "mercy 3 30", "fewest 1 30", "crown 1 30", "dig 2 30", "keep 4 30 2",
        "pairs 6 4", "whoBore 3", "whatKind 6 8 2", "two 6 8 8 30", "falls 1 8 21 13 2", "shares 3 10 2",
        "strongest 4 4", "mean 3 2", "spare 2 8", "height 4 3", "eased 3 30", "shoulders 3 6", "row 6 6", "judge 1",
        "clear 1", "lots 1 5 100000 2", "image 1", "restore 1", "count 4 18"};
    private static final List<String[]> OFTEN = new ArrayList<>();
    private static final Map<String, Method> OF_HOME = new HashMap<>();
    private static final Map<String, Method> OF_PLAIN = new HashMap<>();

    private static int any(int below) {
        int kind = draw.nextInt(40);
        if (kind == 0) {
            return draw.nextInt();
        }
        if (kind == 1) {
            return -1 - draw.nextInt(3);
        }
        return kind == 2 ? below + draw.nextInt(50) : draw.nextInt(below);
    }

    private static void one(String name, int... arguments) {
        Object[] boxed = Arrays.stream(arguments).boxed().toArray();
        String call = name + Arrays.toString(arguments);
        try {
            Object got = OF_HOME.get(name).invoke(home, boxed);
            Object due = OF_PLAIN.get(name).invoke(plain, boxed);
            calls.add(call + " " + due);
            if (!got.equals(due)) {
                wrong++;
                if (wrong < 10) {
                    System.out.println(call + " answered " + got + ", due is " + due + ", behind " + calls);
                }
            }
        } catch (IllegalAccessException | InvocationTargetException e) {
            throw new IllegalStateException(call + " behind " + calls, e);
        }
    }

    private static String statement() {
        switch (draw.nextInt(9)) {
            case 0:
            case 1:
                return "m" + draw.nextInt(draw.nextInt(20) == 0 ? 7 : 6) + draw.nextInt(10) + ";";
            case 2:
            case 3:
                return "p" + draw.nextInt(Math.max(1, home.count(0) + draw.nextInt(2))) + ";";
            case 4:
                return "s" + String.format("%02d", draw.nextInt(draw.nextInt(20) == 0 ? 14 : 12)) + draw.nextInt(10)
                        + ";";
            case 5:
                return "l" + String.format("%02d", draw.nextInt(draw.nextInt(9) == 0 ? 63 : 30)) + ";";
            case 6:
                return "k" + String.format("%02d", draw.nextInt(draw.nextInt(9) == 0 ? 14 : 8)) + ";";
            case 7:
                return "w" + draw.nextInt(10) + ";";
            default:
                return "d" + String.format("%02d", draw.nextInt(draw.nextInt(20) == 0 ? 63 : 4)) + ";";
        }
    }

    private static void tellsAReign() {
        StringBuilder text = new StringBuilder();
        for (int i = draw.nextInt(6); i >= 0; i--) {
            text.append(statement());
        }
        if (draw.nextInt(6) == 0) {
            text.setCharAt(draw.nextInt(text.length()), "mpslkwd;:/0195".charAt(draw.nextInt(14)));
        }
        if (draw.nextInt(6) == 0) {
            text.setLength(draw.nextInt(text.length()));
        }
        for (int i = 0; i < text.length(); i++) {
            one("feed", text.charAt(i));
        }
        one("reign");
    }

    /** A row that is so of someone, mostly, so that who bore and what kind one is can be told by it. */
    private static void tellsARow() {
        one("clear");
        State s = plain.now.copy();
        int m = s.men.isEmpty() ? 0 : draw.nextInt(s.men.size());
        boolean ofKing = s.men.isEmpty() || draw.nextBoolean();
        if (!s.men.isEmpty() && s.men.get(m).fate == 0 && ofKing) {
            s.men.get(m).fate = 1;
        } else if (!ofKing && draw.nextBoolean()) {
            s.men.set(m, s.men.get(m).as(draw.nextInt(6), s.men.get(m).figure));
        }
        for (State day : s.daysOn(draw.nextInt(12))) {
            one("row", ofKing ? day.king : day.men.get(m).worn);
        }
        if (ofKing) {
            one("whoBore");
        } else {
            one("whatKind", m, 0);
            one("whatKind", m, 1);
        }
    }

    private static void tellsWorn() {
        one("clear");
        for (Man m : plain.now.men) {
            one("row", draw.nextInt(20) == 0 ? 3 : m.worn);
        }
        one("judge");
    }

    private static void oneOrMore() {
        switch (draw.nextInt(40)) {
            case 0:
                tellsAReign();
                break;
            case 1:
                tellsARow();
                break;
            case 2:
                tellsWorn();
                break;
            default:
                String[] call = OFTEN.get(draw.nextInt(OFTEN.size()));
                int[] arguments = new int[call.length - 2];
                for (int i = 0; i < arguments.length; i++) {
                    arguments[i] = any(Integer.parseInt(call[i + 2]));
                }
                one(call[0], arguments);
        }
    }

    private static void findsTheFace() {
        for (Method m : CarriedHome.class.getDeclaredMethods()) {
            if (Modifier.isPublic(m.getModifiers())) {
                OF_HOME.put(m.getName(), m);
            }
        }
        for (Method m : Plain.class.getDeclaredMethods()) {
            OF_PLAIN.put(m.getName(), m);
        }
        for (String line : FACE) {
            String[] call = line.split(" ");
            for (int i = Integer.parseInt(call[1]); i > 0; i--) {
                OFTEN.add(call);
            }
        }
        if (OF_HOME.size() != FACE.length) {
            throw new IllegalStateException("the face has " + OF_HOME.size() + " methods");
        }
    }

    public static void main(String[] args) {
        findsTheFace();
        for (int run = 0; run < RUNS && wrong == 0; run++) {
            home = new CarriedHome();
            plain = new Plain();
            calls.clear();
            for (int m = draw.nextInt(9); m > 0; m--) {
                one("man", draw.nextInt(6), draw.nextInt(10));
            }
            for (int s = draw.nextInt(3) * 6; s > 0; s--) {
                one("slopes", s - 1, draw.nextInt(5));
            }
            while (calls.size() < CALLS) {
                oneOrMore();
            }
        }
        System.out.println(wrong == 0 ? "the answers are those of the plain one" : wrong + " answers are not");
        if (wrong != 0) {
            System.exit(1);
        }
    }
}
