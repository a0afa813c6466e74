/**
 * A king who is carried home by the men he has pardoned.
 *
 * <p>The document is ../shared/DOC.md; "promise N" below is its promise N.
 */
public final class CarriedHome {

    private static final int NOBODY = -1;
    private static final int OTHER = -2;
    private static final int STATE = -3;
    private static final int BELOW = -4;
    private static final int ROOM = -6;

    private static final int NONE = -9;
    private static final int WIDE = 1000000000;
    private static final long LONG_WIDE = 4000000000000000000L;

    private static final int STAGES = 12;
    private static final int MEN = 8;
    private static final int KINDS = 6;
    private static final int DIGIT = 9;
    private static final int MOST_LOAD = 60;
    private static final int MOST_DAYS = 60;
    private static final int LAST_DAY = 999;
    private static final int MOST_WORN = 99;
    private static final int MOST_LETTERS = 96;
    private static final int LAST_LETTER = 255;
    private static final int ROW_ROOM = 12;
    private static final int MOST_TOLD = 99;
    private static final int MOST_KEPT = 8;

    private static final int MAN = 0;
    private static final int THIEF = 1;
    private static final int KILLER = 2;
    private static final int FORGER = 3;
    private static final int FEUDIST = 4;
    private static final int SILENT = 5;

    private static final int CONDEMNED = 0;
    private static final int PARDONED = 1;
    private static final int DEAD = 2;

    private final Realm now = new Realm();
    private final Realm mind = new Realm();
    private final Realm image = new Realm();
    private final Past past = new Past();
    private final Letters letters = new Letters();
    private final Row told = new Row();
    private final Counsel counsel = new Counsel();
    private final Chances chances = new Chances();
    private final int[] refusals = new int[7];
    private boolean imageIsTaken = false;

    public CarriedHome() {
    }

    // Promises 2 and 3: letters and the reign they tell.

    public int feed(int letter) {
        if (letter < 0) {
            return refuse(BELOW);
        }
        if (letter > LAST_LETTER || letters.isFull()) {
            return refuse(ROOM);
        }
        letters.add(letter);
        return letters.size;
    }

    /** All statements come, or none: they are tried in mind first. */
    public int reign() {
        int fault = letters.faultOfForm();
        int answer = fault >= 0 ? -1000 - fault : 0;
        int at = 0;
        mind.become(now);
        while (at < letters.size && answer >= 0) {
            if (obeys(at)) {
                answer++;
                at += Letters.lengthOf(letters.at(at));
            } else {
                answer = -2000 - at;
            }
        }
        if (answer >= 0) {
            now.become(mind);
            past.forget();
        }
        letters.forget();
        return answer;
    }

    /** Whether the statement at this place is as it must be; if it is, it comes in mind. */
    private boolean obeys(int at) {
        int first = letters.digit(at + 1);
        int pair = letters.twoDigits(at + 1);
        switch (letters.at(at)) {
            case 'm':
                return mind.takesIn(first, letters.digit(at + 2));
            case 'p':
                return mind.turns(first);
            case 's':
                return mind.levels(pair, letters.digit(at + 3));
            case 'l':
                if (outside(pair, 1, MOST_LOAD) != 0) {
                    return false;
                }
                mind.load = pair;
                return true;
            case 'k':
                if (outside(pair, 0, STAGES) != 0) {
                    return false;
                }
                mind.king = pair;
                return true;
            case 'w':
                mind.snow = first;
                return true;
            case 'd':
                if (outside(pair, 1, MOST_DAYS) != 0 || mind.day + pair > LAST_DAY) {
                    return false;
                }
                mind.passDays(pair);
                return true;
            default:
                return false;
        }
    }

    // Promises 4 to 12: what is there, what changes it, and taking it back.

    public int manOf(int man, int what) {
        if (!now.has(man)) {
            return refuse(NOBODY);
        }
        switch (what) {
            case 0:
                return now.kindOf(man);
            case 1:
                return now.figureOf(man);
            case 2:
                return now.fateOf(man);
            case 3:
                return now.wornOf(man);
            case 4:
                return now.bears(man);
            case 5:
                return now.lasts(man);
            default:
                return refuse(OTHER);
        }
    }

    public int slope(int stage) {
        if (!isStage(stage)) {
            return refuse(NOBODY);
        }
        return now.slopeOf(stage);
    }

    public int man(int kind, int figure) {
        if (!isKind(kind)) {
            return refuse(OTHER);
        }
        if (figure < 0) {
            return refuse(BELOW);
        }
        if (figure > DIGIT || !now.takesIn(kind, figure)) {
            return refuse(ROOM);
        }
        past.forget();
        return now.men - 1;
    }

    public int pardons(int man) {
        if (!now.has(man)) {
            return refuse(NOBODY);
        }
        if (now.fateOf(man) == DEAD) {
            return refuse(STATE);
        }
        past.remember(now);
        now.turns(man);
        return now.fateOf(man);
    }

    public int slopes(int stage, int v) {
        if (!isStage(stage)) {
            return refuse(NOBODY);
        }
        int no = outside(v, 0, DIGIT);
        if (no != 0) {
            return refuse(no);
        }
        int was = now.slopeOf(stage);
        past.remember(now);
        now.levels(stage, v);
        return was;
    }

    public int loads(int v) {
        int no = outside(v, 1, MOST_LOAD);
        if (no != 0) {
            return refuse(no);
        }
        int was = now.load;
        past.remember(now);
        now.load = v;
        return was;
    }

    public int snows(int v) {
        int no = outside(v, 0, DIGIT);
        if (no != 0) {
            return refuse(no);
        }
        int was = now.snow;
        now.snow = v;
        past.forget();
        return was;
    }

    public int days(int n) {
        int no = outside(n, 1, MOST_DAYS);
        if (no != 0) {
            return refuse(no);
        }
        if (now.day + n > LAST_DAY) {
            return refuse(ROOM);
        }
        past.remember(now);
        now.passDays(n);
        return now.king;
    }

    public int back() {
        if (past.size == 0) {
            return refuse(STATE);
        }
        past.takeBack(now);
        return past.size;
    }

    // Promises 13 to 16: days on, in mind.

    public int then(int n, int what) {
        int no = outside(n, 0, MOST_DAYS);
        if (no != 0) {
            return refuse(no);
        }
        if (what < 0 || what > 2) {
            return refuse(OTHER);
        }
        mind.become(now);
        int waits = mind.passDays(n);
        if (what == 0) {
            return mind.king;
        }
        return what == 1 ? mind.menWhoAre(DEAD) : waits;
    }

    public int wornIn(int man, int n) {
        if (!now.has(man)) {
            return refuse(NOBODY);
        }
        int no = outside(n, 0, MOST_DAYS);
        if (no != 0) {
            return refuse(no);
        }
        mind.become(now);
        mind.passDays(n);
        return mind.wornOf(man);
    }

    public int home(int what) {
        if (what == 0) {
            return counsel.daysToHome(now);
        }
        if (what == 1) {
            return now.isHome() ? 0 : now.bearers();
        }
        return refuse(OTHER);
    }

    public int dies(int man) {
        if (man == -1) {
            return counsel.firstToDie(now);
        }
        if (!now.has(man)) {
            return refuse(NOBODY);
        }
        return counsel.daysToDeath(now, man);
    }

    // Promises 17 to 21: what to do now.

    public int mercy(int n) {
        int no = outside(n, 0, MOST_DAYS);
        return no != 0 ? refuse(no) : counsel.whomToPardon(now, n);
    }

    public int fewest(int n) {
        int no = outside(n, 0, MOST_DAYS);
        return no != 0 ? refuse(no) : counsel.fewestToPardon(now, n);
    }

    public int crown(int n) {
        int no = outside(n, 0, MOST_DAYS);
        return no != 0 ? refuse(no) : counsel.greatestLoad(now, n);
    }

    public int dig(int n) {
        int no = outside(n, 0, MOST_DAYS);
        return no != 0 ? refuse(no) : counsel.whereToDig(now, n);
    }

    public int keep(int n, int what) {
        int no = outside(n, 0, MOST_DAYS);
        if (no != 0) {
            return refuse(no);
        }
        if (!isOneOfTwo(what)) {
            return refuse(OTHER);
        }
        return counsel.cheapestToCondemn(now, n, what == 1);
    }

    // Promises 22 to 25: twos, sets, and what a row tells.

    public int pairs(int what) {
        switch (what) {
            case 0:
                return now.twosInStep();
            case 1:
                return counsel.fewestPoles(now);
            case 2:
                return now.howManyOwe();
            case 3:
                return now.strengthOf(now.menWhoAre(PARDONED)) - now.needed();
            default:
                return WIDE - refuse(OTHER);
        }
    }

    public int whoBore() {
        return counsel.whoFits(now, told);
    }

    public int whatKind(int man, int what) {
        if (!now.has(man)) {
            return refuse(NOBODY);
        }
        if (!isOneOfTwo(what)) {
            return refuse(OTHER);
        }
        return what == 0 ? counsel.kindsThatFit(now, told, man) : counsel.figuresThatFit(now, told, man);
    }

    public int two(int one, int other, int n) {
        if (!now.has(one) || !now.has(other) || one == other) {
            return refuse(NOBODY);
        }
        int no = outside(n, 0, MOST_DAYS);
        if (no != 0) {
            return refuse(no);
        }
        if (now.fateOf(one) != CONDEMNED || now.fateOf(other) != CONDEMNED) {
            return refuse(STATE);
        }
        return counsel.choiceOfTwo(now, one, other, n);
    }

    // Promises 26 to 33: odds, shares, shoulders.

    public long falls(int n, int t, int v, int part) {
        if (n < 0 || t < 2 || v < 0) {
            return LONG_WIDE - refuse(BELOW);
        }
        if (n > 7 || t > 20 || v > STAGES) {
            return LONG_WIDE - refuse(ROOM);
        }
        if (!isOneOfTwo(part)) {
            return LONG_WIDE - refuse(OTHER);
        }
        return inLowestTerms(chances.waysToBeAt(now, n, t, v), power(t, n), part);
    }

    public int shares(int n, int what) {
        if (n < 1) {
            return refuse(BELOW);
        }
        if (n > 9) {
            return refuse(ROOM);
        }
        if (!isOneOfTwo(what)) {
            return refuse(OTHER);
        }
        return what == 0 ? now.needed() / n : now.needed() % n;
    }

    public int strongest(int what) {
        switch (what) {
            case 0:
                return now.strongestBut(0);
            case 1:
                return now.steepest();
            case 2:
                return STAGES - now.king;
            case 3:
                return Integer.bitCount(now.menWhoAre(CONDEMNED));
            default:
                return refuse(OTHER);
        }
    }

    public long mean(int part) {
        if (!isOneOfTwo(part)) {
            return LONG_WIDE - refuse(OTHER);
        }
        return inLowestTerms(now.slopesAhead(), STAGES - now.king, part);
    }

    public int spare(int man) {
        if (!now.has(man)) {
            return refuse(NOBODY);
        }
        return Math.max(0, now.lasts(man) - now.wornOf(man));
    }

    public int height(int what) {
        switch (what) {
            case 0:
                return now.slopesAhead();
            case 1:
                return now.firstTooSteep();
            case 2:
                return counsel.longestWait(now);
            default:
                return refuse(OTHER);
        }
    }

    public int eased(int n) {
        int no = outside(n, 0, MOST_DAYS);
        if (no != 0) {
            return WIDE - refuse(no);
        }
        return counsel.gainWithoutSnow(now, n);
    }

    public int shoulders(int kind) {
        if (!isKind(kind)) {
            return refuse(OTHER);
        }
        return now.pardonedOfKind(kind);
    }

    // Promises 34 to 37: the row, and reigns by lot.

    public int row(int v) {
        int no = outside(v, 0, MOST_TOLD);
        if (no != 0) {
            return refuse(no);
        }
        if (told.isFull()) {
            return refuse(ROOM);
        }
        told.add(v);
        return told.size;
    }

    public int judge() {
        int wrong = NONE;
        for (int i = 0; i < told.size && wrong == NONE; i++) {
            if (!now.has(i) || now.wornOf(i) != told.at(i)) {
                wrong = i;
            }
        }
        told.forget();
        return wrong;
    }

    public int clear() {
        int had = told.size;
        told.forget();
        return had;
    }

    public int lots(int n, int z, int what) {
        int no = outside(n, 1, 20);
        if (no != 0) {
            return refuse(no);
        }
        if (!isOneOfTwo(what)) {
            return refuse(OTHER);
        }
        return chances.reignsByLot(now, n, z, what == 1);
    }

    // Promises 38 to 40: the image, and counts.

    public int image() {
        image.become(now);
        imageIsTaken = true;
        return now.day;
    }

    public int restore() {
        if (!imageIsTaken) {
            return refuse(STATE);
        }
        now.become(image);
        past.forget();
        return now.day;
    }

    public int count(int what) {
        if (what >= 11 && what <= 16) {
            return refusals[what - 10];
        }
        switch (what) {
            case 0:
                return now.men;
            case 1:
                return now.day;
            case 2:
                return now.king;
            case 3:
                return now.load;
            case 4:
                return now.snow;
            case 5:
                return now.menWhoAre(PARDONED);
            case 6:
                return now.menWhoAre(DEAD);
            case 7:
                return letters.size;
            case 8:
                return told.size;
            case 9:
                return past.size;
            default:
                return NONE;
        }
    }

    private int refuse(int number) {
        int at = -number;
        if (at >= 1 && at < refusals.length) {
            refusals[at]++;
        }
        return number;
    }

    /** 0, or the refusal of a number that is not from least to greatest. */
    private static int outside(int v, int least, int greatest) {
        if (v < least) {
            return BELOW;
        }
        return v > greatest ? ROOM : 0;
    }

    private static boolean isStage(int stage) {
        return stage >= 0 && stage < STAGES;
    }

    private static boolean isKind(int kind) {
        return kind >= 0 && kind < KINDS;
    }

    private static boolean isOneOfTwo(int what) {
        return what == 0 || what == 1;
    }

    private static long power(long base, int times) {
        long product = 1;
        for (int i = 0; i < times; i++) {
            product *= base;
        }
        return product;
    }

    /** Part 0 is above the line, part 1 below it; a fraction of nothing is 0 over 1. */
    private static long inLowestTerms(long above, long below, int part) {
        if (above == 0 || below == 0) {
            return part;
        }
        long divisor = commonDivisor(above, below);
        if (divisor == 0) {
            return part;
        }
        return part == 0 ? above / divisor : below / divisor;
    }

    private static long commonDivisor(long a, long b) {
        long greater = a;
        long smaller = b;
        // Euclid's steps for longs stay below a hundred.
        for (int step = 0; step < 200 && smaller != 0; step++) {
            long rest = greater % smaller;
            greater = smaller;
            smaller = rest;
        }
        return greater;
    }

    /** The road, the men and the king: all that a day changes, and all that an image holds. */
    private static final class Realm {
        private final int[] slopeAt = new int[STAGES];
        private final int[] kind = new int[MEN];
        private final int[] figure = new int[MEN];
        private final int[] fate = new int[MEN];
        private final int[] worn = new int[MEN];
        private int men = 0;
        private int king = 0;
        private int load = 12;
        private int snow = 0;
        private int day = 0;

        Realm() {
            for (int i = 0; i < STAGES; i++) {
                slopeAt[i] = 1;
            }
        }

        void become(Realm other) {
            if (other == null) {
                return;
            }
            System.arraycopy(other.slopeAt, 0, slopeAt, 0, STAGES);
            System.arraycopy(other.kind, 0, kind, 0, MEN);
            System.arraycopy(other.figure, 0, figure, 0, MEN);
            System.arraycopy(other.fate, 0, fate, 0, MEN);
            System.arraycopy(other.worn, 0, worn, 0, MEN);
            men = other.men;
            king = other.king;
            load = other.load;
            snow = other.snow;
            day = other.day;
        }

        boolean has(int m) {
            return m >= 0 && m < men && m < MEN;
        }

        int kindOf(int m) {
            return has(m) ? kind[m] : NONE;
        }

        int figureOf(int m) {
            return has(m) ? figure[m] : NONE;
        }

        int fateOf(int m) {
            return has(m) ? fate[m] : NONE;
        }

        int wornOf(int m) {
            return has(m) ? worn[m] : NONE;
        }

        int slopeOf(int stage) {
            return stage >= 0 && stage < STAGES ? slopeAt[stage] : 0;
        }

        void makeKind(int m, int k) {
            if (has(m)) {
                kind[m] = k;
            }
        }

        void makeFigure(int m, int f) {
            if (has(m)) {
                figure[m] = f;
            }
        }

        void makeFate(int m, int f) {
            if (has(m)) {
                fate[m] = f;
            }
        }

        boolean isHome() {
            return king >= STAGES;
        }

        /** A man more, condemned; false if he can't be. */
        boolean takesIn(int k, int f) {
            if (!isKind(k) || men < 0 || men >= MEN) {
                return false;
            }
            kind[men] = k;
            figure[men] = f;
            fate[men] = CONDEMNED;
            worn[men] = 0;
            men++;
            return true;
        }

        /** Pardoned, or condemned again; false if he can't be. */
        boolean turns(int m) {
            if (!has(m) || fate[m] == DEAD) {
                return false;
            }
            fate[m] = fate[m] == PARDONED ? CONDEMNED : PARDONED;
            return true;
        }

        boolean levels(int stage, int v) {
            if (!isStage(stage)) {
                return false;
            }
            slopeAt[stage] = v;
            return true;
        }

        int menWhoAre(int which) {
            int bits = 0;
            for (int m = 0; m < men && m < MEN; m++) {
                if (fate[m] == which) {
                    bits |= 1 << m;
                }
            }
            return bits;
        }

        /** What he bears, or would bear if he were pardoned. */
        int bears(int m) {
            if (m < 0 || m >= MEN) {
                return 0;
            }
            int ofMan = 3 + figure[m] / 2;
            int ofFeudist = ofMan + figure[m] + 2;
            switch (kind[m]) {
                case THIEF:
                    return ofMan - 1;
                case KILLER:
                    return ofMan + figure[m];
                case FORGER:
                    return (ofMan - 1) / 2;
                case FEUDIST:
                    return ofFeudist;
                case SILENT:
                    return worn[m] >= 10 ? ofFeudist / 2 : ofFeudist;
                case MAN:
                default:
                    return ofMan;
            }
        }

        /** What a day of bearing with these bearers wears him, where the king is. */
        int wears(int m, int bearers) {
            if (m < 0 || m >= MEN) {
                return 0;
            }
            int steep = slopeOf(king);
            switch (kind[m]) {
                case THIEF:
                    return steep;
                case KILLER:
                    return (steep + 1) / 2;
                case FORGER:
                    return steep + 2;
                case FEUDIST:
                    return isFeudAmong(bearers & ~(1 << m)) ? 0 : (steep + 1) / 2;
                case SILENT:
                    return 1;
                case MAN:
                default:
                    return steep + 1;
            }
        }

        boolean isFeudAmong(int bits) {
            for (int m = 0; m < MEN; m++) {
                if ((bits >> m & 1) == 1 && (kind[m] == FEUDIST || kind[m] == SILENT)) {
                    return true;
                }
            }
            return false;
        }

        /** Worn so much he is dead. */
        int lasts(int m) {
            if (m < 0 || m >= MEN) {
                return 0;
            }
            switch (kind[m]) {
                case THIEF:
                    return 15;
                case KILLER:
                case FEUDIST:
                    return figure[m] + 12;
                case FORGER:
                    return 5;
                case SILENT:
                    return 2 * (figure[m] + 12);
                case MAN:
                default:
                    return 12;
            }
        }

        int needed() {
            return load + slopeOf(king) + snow;
        }

        int strengthOf(int bits) {
            int together = 0;
            for (int m = 0; m < MEN; m++) {
                if ((bits >> m & 1) == 1) {
                    together += bears(m);
                }
            }
            return together;
        }

        /** The strongest pardoned man who is not among these, of several the least. */
        int strongestBut(int bits) {
            int best = NONE;
            int most = -1;
            for (int m = 0; m < men && m < MEN; m++) {
                if (fate[m] == PARDONED && (bits >> m & 1) == 0 && bears(m) > most) {
                    best = m;
                    most = bears(m);
                }
            }
            return best;
        }

        /** Who bears where the king is; nobody, if all together are too weak. */
        int bearers() {
            int bits = 0;
            int borne = 0;
            for (int i = 0; i < MEN && borne < needed(); i++) {
                int next = strongestBut(bits);
                if (next < 0) {
                    return 0;
                }
                bits |= 1 << next;
                borne += bears(next);
            }
            return borne < needed() ? 0 : bits;
        }

        /** A day goes by: whether the king waits (at home he does not). */
        boolean waitsOneDay() {
            day++;
            if (isHome()) {
                return false;
            }
            int bearing = bearers();
            if (bearing != 0) {
                wearOut(bearing);
                king++;
                buryTheWornOut();
            }
            snow = Math.max(0, snow - 1);
            return bearing == 0;
        }

        /** How many of these days the king waits. */
        int passDays(int n) {
            int waits = 0;
            for (int d = 0; d < n; d++) {
                if (waitsOneDay()) {
                    waits++;
                }
            }
            return waits;
        }

        void wearOut(int bearing) {
            for (int m = 0; m < MEN; m++) {
                if ((bearing >> m & 1) == 1) {
                    worn[m] = Math.min(MOST_WORN, worn[m] + wears(m, bearing));
                }
            }
        }

        void buryTheWornOut() {
            for (int m = 0; m < men && m < MEN; m++) {
                if (worn[m] >= lasts(m)) {
                    fate[m] = DEAD;
                }
            }
        }

        void snowMore(int v) {
            snow = Math.min(DIGIT, snow + v);
        }

        int slopesAhead() {
            int together = 0;
            for (int s = Math.max(0, king); s < STAGES; s++) {
                together += slopeAt[s];
            }
            return together;
        }

        int steepest() {
            int best = 0;
            for (int s = 1; s < STAGES; s++) {
                if (slopeAt[s] > slopeOf(best)) {
                    best = s;
                }
            }
            return best;
        }

        /** The first stage from here which all pardoned are too weak for without snow. */
        int firstTooSteep() {
            int together = strengthOf(menWhoAre(PARDONED));
            for (int s = Math.max(0, king); s < STAGES; s++) {
                if (together < load + slopeAt[s]) {
                    return s;
                }
            }
            return NONE;
        }

        /** The most twos of pardoned men who bear alike, each in one two at most. */
        int twosInStep() {
            int single = 0;
            int twos = 0;
            for (int m = 0; m < men && m < MEN; m++) {
                if (fate[m] == PARDONED) {
                    int partner = oneWhoBears(bears(m), single);
                    if (partner < 0) {
                        single |= 1 << m;
                    } else {
                        single &= ~(1 << partner);
                        twos++;
                    }
                }
            }
            return twos;
        }

        int oneWhoBears(int v, int bits) {
            for (int m = 0; m < MEN; m++) {
                if ((bits >> m & 1) == 1 && bears(m) == v) {
                    return m;
                }
            }
            return NONE;
        }

        int howManyOwe() {
            int owing = 0;
            for (int m = 0; m < men && m < MEN; m++) {
                if (fate[m] == PARDONED && worn[m] > 0) {
                    owing++;
                }
            }
            return owing;
        }

        int pardonedOfKind(int k) {
            int there = 0;
            for (int m = 0; m < men && m < MEN; m++) {
                if (fate[m] == PARDONED && kind[m] == k) {
                    there++;
                }
            }
            return there;
        }
    }

    /** What was before the latest changes, the latest last. */
    private static final class Past {
        private final Realm[] kept = new Realm[MOST_KEPT];
        private int size = 0;

        Past() {
            for (int i = 0; i < MOST_KEPT; i++) {
                kept[i] = new Realm();
            }
        }

        void remember(Realm now) {
            if (size >= MOST_KEPT) {
                dropOldest();
            }
            if (size >= 0 && size < MOST_KEPT && kept[size] != null) {
                kept[size].become(now);
                size++;
            }
        }

        /** The oldest one's object is used again behind the others. */
        void dropOldest() {
            Realm oldest = kept[0];
            for (int i = 1; i < MOST_KEPT; i++) {
                kept[i - 1] = kept[i];
            }
            kept[MOST_KEPT - 1] = oldest;
            size = MOST_KEPT - 1;
        }

        void takeBack(Realm now) {
            if (now != null && size > 0 && size <= MOST_KEPT) {
                size--;
                now.become(kept[size]);
            }
        }

        void forget() {
            size = 0;
        }
    }

    /** Letters told one by one, and the form a reign must have. */
    private static final class Letters {
        private final int[] letter = new int[MOST_LETTERS];
        private int size = 0;

        boolean isFull() {
            return size >= MOST_LETTERS;
        }

        void add(int v) {
            if (size >= 0 && size < MOST_LETTERS) {
                letter[size] = v;
                size++;
            }
        }

        void forget() {
            size = 0;
        }

        int at(int place) {
            return place >= 0 && place < size && place < MOST_LETTERS ? letter[place] : NONE;
        }

        boolean isDigit(int place) {
            return at(place) >= '0' && at(place) <= '9';
        }

        int digit(int place) {
            return isDigit(place) ? at(place) - '0' : NONE;
        }

        int twoDigits(int place) {
            return digit(place) * 10 + digit(place + 1);
        }

        /** How many digits a statement has; none begins with another letter. */
        static int digitsBehind(int first) {
            switch (first) {
                case 'p':
                case 'w':
                    return 1;
                case 'm':
                case 'l':
                case 'k':
                case 'd':
                    return 2;
                case 's':
                    return 3;
                default:
                    return NONE;
            }
        }

        /** With its first letter and the ";" behind it; at least 2. */
        static int lengthOf(int first) {
            return Math.max(0, digitsBehind(first)) + 2;
        }

        /** The place of the first letter with which no reign can go on, or NONE. */
        int faultOfForm() {
            if (size == 0) {
                return 0;
            }
            int at = 0;
            while (at < size) {
                if (digitsBehind(at(at)) < 0) {
                    return at;
                }
                int end = at + lengthOf(at(at)) - 1;
                for (int place = at + 1; place < end; place++) {
                    if (!isDigit(place)) {
                        return place;
                    }
                }
                if (at(end) != ';') {
                    return end;
                }
                at = end + 1;
            }
            return NONE;
        }
    }

    /** A row of numbers. */
    private static final class Row {
        private final int[] number = new int[ROW_ROOM];
        private int size = 0;

        boolean isFull() {
            return size >= ROW_ROOM;
        }

        void add(int v) {
            if (size >= 0 && size < ROW_ROOM) {
                number[size] = v;
                size++;
            }
        }

        int at(int place) {
            return place >= 0 && place < size && place < ROW_ROOM ? number[place] : NONE;
        }

        void forget() {
            size = 0;
        }
    }

    /** Questions that are answered by trying days in mind. */
    private static final class Counsel {
        private final Realm mind = new Realm();
        private final int[] gainOfOne = new int[4];
        private final int[] gainOfOther = new int[4];

        int daysToHome(Realm now) {
            mind.become(now);
            for (int d = 0; d <= MOST_DAYS; d++) {
                if (mind.isHome()) {
                    return d;
                }
                mind.waitsOneDay();
            }
            return NONE;
        }

        int daysToDeath(Realm now, int m) {
            mind.become(now);
            for (int d = 0; d <= MOST_DAYS; d++) {
                if (mind.fateOf(m) == DEAD) {
                    return d;
                }
                mind.waitsOneDay();
            }
            return NONE;
        }

        int firstToDie(Realm now) {
            mind.become(now);
            for (int d = 0; d < MOST_DAYS; d++) {
                mind.waitsOneDay();
                for (int m = 0; m < MEN; m++) {
                    if (now.fateOf(m) == PARDONED && mind.fateOf(m) == DEAD) {
                        return m;
                    }
                }
            }
            return NONE;
        }

        int whomToPardon(Realm now, int n) {
            mind.become(now);
            mind.passDays(n);
            int farthest = mind.king;
            int best = NONE;
            for (int m = 0; m < MEN; m++) {
                if (now.fateOf(m) == CONDEMNED) {
                    mind.become(now);
                    mind.makeFate(m, PARDONED);
                    mind.passDays(n);
                    if (mind.king > farthest) {
                        farthest = mind.king;
                        best = m;
                    }
                }
            }
            return best;
        }

        /** Sets are tried from the smallest on, and of one size from the least bits on. */
        int fewestToPardon(Realm now, int n) {
            int condemned = now.menWhoAre(CONDEMNED);
            for (int size = 0; size <= MEN; size++) {
                for (int bits = 0; bits < 1 << MEN; bits++) {
                    if ((bits & ~condemned) == 0 && Integer.bitCount(bits) == size) {
                        mind.become(now);
                        pardonInMind(bits);
                        mind.passDays(n);
                        if (mind.isHome()) {
                            return bits;
                        }
                    }
                }
            }
            return NONE;
        }

        void pardonInMind(int bits) {
            for (int m = 0; m < MEN; m++) {
                if ((bits >> m & 1) == 1) {
                    mind.makeFate(m, PARDONED);
                }
            }
        }

        /** A greater load can wear other bearers, so that each is tried by itself. */
        int greatestLoad(Realm now, int n) {
            for (int v = MOST_LOAD; v >= 1; v--) {
                mind.become(now);
                mind.load = v;
                mind.passDays(n);
                if (mind.isHome()) {
                    return v;
                }
            }
            return NONE;
        }

        int whereToDig(Realm now, int n) {
            mind.become(now);
            mind.passDays(n);
            int farthest = mind.king;
            int best = NONE;
            for (int s = 0; s < STAGES; s++) {
                mind.become(now);
                mind.levels(s, 0);
                mind.passDays(n);
                if (mind.king > farthest) {
                    farthest = mind.king;
                    best = s;
                }
            }
            return best;
        }

        int cheapestToCondemn(Realm now, int n, boolean asksWhere) {
            int farthest = NONE;
            int best = NONE;
            for (int m = 0; m < MEN; m++) {
                if (now.fateOf(m) == PARDONED) {
                    mind.become(now);
                    mind.makeFate(m, CONDEMNED);
                    mind.passDays(n);
                    if (mind.king > farthest) {
                        farthest = mind.king;
                        best = m;
                    }
                }
            }
            return asksWhere ? farthest : best;
        }

        int fewestPoles(Realm now) {
            int pardoned = now.menWhoAre(PARDONED);
            for (int size = 0; size <= MEN; size++) {
                for (int bits = 0; bits < 1 << MEN; bits++) {
                    if ((bits & ~pardoned) == 0 && Integer.bitCount(bits) == size
                            && now.strengthOf(bits) >= now.needed()) {
                        return bits;
                    }
                }
            }
            return NONE;
        }

        int whoFits(Realm now, Row told) {
            int fitting = 0;
            for (int m = 0; m < MEN; m++) {
                if (now.fateOf(m) == CONDEMNED) {
                    mind.become(now);
                    mind.makeFate(m, PARDONED);
                    if (kingGoesAs(told)) {
                        fitting |= 1 << m;
                    }
                }
            }
            return fitting;
        }

        boolean kingGoesAs(Row told) {
            for (int d = 0; d < told.size; d++) {
                if (mind.king != told.at(d)) {
                    return false;
                }
                mind.waitsOneDay();
            }
            return true;
        }

        int kindsThatFit(Realm now, Row told, int m) {
            int fitting = 0;
            for (int k = 0; k < KINDS; k++) {
                mind.become(now);
                mind.makeKind(m, k);
                if (isWornAs(told, m)) {
                    fitting |= 1 << k;
                }
            }
            return fitting;
        }

        int figuresThatFit(Realm now, Row told, int m) {
            int fitting = 0;
            for (int f = 0; f <= DIGIT; f++) {
                mind.become(now);
                mind.makeFigure(m, f);
                if (isWornAs(told, m)) {
                    fitting |= 1 << f;
                }
            }
            return fitting;
        }

        boolean isWornAs(Row told, int m) {
            for (int d = 0; d < told.size; d++) {
                if (mind.wornOf(m) != told.at(d)) {
                    return false;
                }
                mind.waitsOneDay();
            }
            return true;
        }

        /** A pair's bits: 2 the one asks for mercy, 1 the other does. */
        int choiceOfTwo(Realm now, int one, int other, int n) {
            for (int pair = 0; pair < 4; pair++) {
                mind.become(now);
                mind.makeFate(one, pair >> 1 == 1 ? PARDONED : CONDEMNED);
                mind.makeFate(other, (pair & 1) == 1 ? PARDONED : CONDEMNED);
                mind.passDays(n);
                int safe = mind.isHome() ? 3 : 0;
                gainOfOne[pair] = safe - mind.wornOf(one) / 4;
                gainOfOther[pair] = safe - mind.wornOf(other) / 4;
            }
            for (int pair = 0; pair < 4; pair++) {
                if (gainOfOne[pair ^ 2] <= gainOfOne[pair] && gainOfOther[pair ^ 1] <= gainOfOther[pair]) {
                    return 10 * (pair >> 1) + (pair & 1);
                }
            }
            return NONE;
        }

        int longestWait(Realm now) {
            mind.become(now);
            int longest = 0;
            int waits = 0;
            for (int d = 0; d < MOST_DAYS && !mind.isHome(); d++) {
                waits = mind.waitsOneDay() ? waits + 1 : 0;
                longest = Math.max(longest, waits);
            }
            return longest;
        }

        int gainWithoutSnow(Realm now, int n) {
            mind.become(now);
            mind.passDays(n);
            int withSnow = mind.king;
            mind.become(now);
            mind.snow = 0;
            mind.passDays(n);
            return mind.king - withSnow;
        }
    }

    /** Snow by odds, and reigns by lot. */
    private static final class Chances {
        private final Realm mind = new Realm();
        private int seed = 0;

        /** Of t to the power of n ways alike likely, those with the king at stage v or farther. */
        long waysToBeAt(Realm now, int n, int t, int v) {
            long ways = 0;
            for (int falls = 0; falls < 1 << n; falls++) {
                mind.become(now);
                for (int d = 0; d < n; d++) {
                    if ((falls >> d & 1) == 1) {
                        mind.snowMore(4);
                    }
                    mind.waitsOneDay();
                }
                if (mind.king >= v) {
                    ways += power(t - 1, n - Integer.bitCount(falls));
                }
            }
            return ways;
        }

        int reignsByLot(Realm now, int n, int z, boolean asksDead) {
            seed = z;
            int gone = 0;
            int dead = 0;
            for (int i = 0; i < n; i++) {
                mind.become(now);
                for (int s = 0; s < STAGES; s++) {
                    mind.levels(s, drawDigit());
                }
                mind.passDays(15);
                gone += mind.king - now.king;
                dead += Integer.bitCount(mind.menWhoAre(DEAD));
            }
            return asksDead ? dead : gone;
        }

        int drawDigit() {
            seed = seed * 1103515245 + 12345;
            return (seed & 0x7fffffff) / 65536 % 10;
        }
    }
}
