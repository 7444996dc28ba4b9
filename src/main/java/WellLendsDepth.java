/**
 * A well that lends depth. README.md says how to use it; the document that it keeps numbers its promises.
 * Every array is made in a constructor and used again: no call makes an object.
 */
public final class WellLendsDepth {
    public static final int NONE = -1, BAD = -2, STATE = -3, FULL = -4;
    public static final long NO = Long.MIN_VALUE;

    private static final int NOBODY = -5, FAULTS = -10, NOTHING = -11, CAST = -12, PLACE = -13, SIZE = -14;
    private static final int MOST_BORROWERS = 6, MOST_COUNTRIES = 6, MOST_DEPTH = 9999, MOST_OWES = 99999;
    private static final int MOST_WANTS = 99, MOST_EVERY = 20, MOST_DAY = 9999, MOST_ASKED_DAYS = 60;
    private static final int TURNED_DAYS = 30;

    private static final int KINDS = 7;
    private static final int BORROWER = 0, LATE = 1, GREEDY = 2, LOSING = 3, STRAY = 4, TAKING = 5, TOLD = 6;
    /** For each kind the kind that it stands under. */
    private static final int[] ABOVE = {-1, BORROWER, BORROWER, BORROWER, LATE, GREEDY, LOSING};

    private final Well now = new Well();
    private final Well trial = new Well();
    private final Well kept = new Well();
    private final Hand hand = new Hand();
    private final Hand keptHand = new Hand();
    private final Reader reader = new Reader();
    private final Country plain = new Country();
    private final Country[] countries = new Country[MOST_COUNTRIES];
    private final Actor actor = new Actor();
    private final Tapes tapes = new Tapes();
    private int made = 0;
    private int holding = -1;
    private int keptHolding = -1;
    private boolean imaged = false;

    public WellLendsDepth() {
        for (int i = 0; i < MOST_COUNTRIES; i++) {
            countries[i] = new Country();
        }
    }

    // ---- borrowers, countries

    public int borrower(int kind, int v, int wants, int every) {
        if (!within(kind, 0, KINDS - 1)) {
            return NONE;
        }
        if (!within(v, 0, 9) || !within(wants, 1, MOST_WANTS) || !within(every, 1, MOST_EVERY)) {
            return BAD;
        }
        if (now.count >= MOST_BORROWERS) {
            return FULL;
        }
        return now.join(kind, v, wants, every);
    }

    public int of(int borrower, int what) {
        if (!known(borrower)) {
            return NONE;
        }
        switch (what) {
            case 0: return now.kind[borrower];
            case 1: return now.v[borrower];
            case 2: return now.wants[borrower];
            case 3: return now.every[borrower];
            case 4: return now.has[borrower];
            case 5: return now.left[borrower];
            case 6: return now.owes[borrower];
            case 7: return now.sent[borrower];
            case 8: return rules().rate(now, borrower);
            case 9: return now.asks(borrower, rules().mark);
            case 10: return now.keeps(borrower);
            case 11: return now.staysAway(borrower) ? 1 : 0;
            case 12: return now.bringsBack(borrower);
            default: return NONE;
        }
    }

    public int set(int borrower, int what, int n) {
        if (!known(borrower) || !within(what, 0, 1)) {
            return NONE;
        }
        if (!within(n, 1, what == 0 ? MOST_WANTS : MOST_EVERY)) {
            return BAD;
        }
        int was = what == 0 ? now.wants[borrower] : now.every[borrower];
        if (what == 0) {
            now.wants[borrower] = n;
        } else {
            now.every[borrower] = n;
        }
        return was;
    }

    public int row(int borrower, int part, int n) {
        if (!known(borrower) || !within(part, 0, 3)) {
            return NONE;
        }
        if (!within(n, 0, 9)) {
            return BAD;
        }
        if (now.kind[borrower] != TOLD) {
            return STATE;
        }
        int was = now.rows[borrower * 4 + part];
        now.rows[borrower * 4 + part] = n;
        return was;
    }

    public int depth(int n) {
        if (!within(n, 0, MOST_DEPTH)) {
            return BAD;
        }
        int was = now.depth;
        now.depth = n;
        return was;
    }

    public int change(int one, int other) {
        if (!known(one) || !known(other)) {
            return NONE;
        }
        if (one == other) {
            return BAD;
        }
        int was = now.line[one];
        now.trade(one, other);
        return was;
    }

    public int call(int borrower) {
        if (!known(borrower)) {
            return NONE;
        }
        int had = now.has[borrower];
        if (had == 0) {
            return STATE;
        }
        now.callIn(borrower);
        return had;
    }

    public int feed(int sign) {
        if (!within(sign, 0, 127)) {
            return BAD;
        }
        if (reader.length >= Reader.MOST_TEXT) {
            return FULL;
        }
        reader.take(sign);
        return reader.length;
    }

    public int country() {
        if (made >= MOST_COUNTRIES) {
            return FULL;
        }
        int fault = reader.readInto(countries[made]);
        reader.length = 0;
        if (fault >= 0) {
            return FAULTS - fault;
        }
        holding = made;
        made++;
        return holding;
    }

    public int told(int what) {
        if (what >= 10) {
            return known(what - 10) ? now.line[what - 10] : NONE;
        }
        switch (what) {
            case 0: return now.day;
            case 1: return now.depth;
            case 2: return rules().mark;
            case 3: return rules().spring;
            case 4: return rules().fine;
            case 5: return now.owesOfAll();
            default: return NONE;
        }
    }

    // ---- days

    public int pass(int n) {
        if (!askedDays(n)) {
            return BAD;
        }
        if (now.day + n > MOST_DAY) {
            return STATE;
        }
        Country rules = rules();
        for (int i = 0; i < n; i++) {
            now.goDay(rules, rules.mark, NOBODY);
        }
        return now.depth;
    }

    public int on(int n, int what) {
        boolean ofOne = known(what - 10) || known(what - 20);
        if (!within(what, 0, 2) && !ofOne) {
            return NONE;
        }
        if (!askedDays(n)) {
            return BAD;
        }
        startTrial();
        goTrial(n);
        switch (what) {
            case 0: return trial.depth;
            case 1: return trial.turned;
            case 2: return trial.owesOfAll();
            default: return known(what - 10) ? trial.has[what - 10] : trial.owes[what - 20];
        }
    }

    public int lowest(int n, int what) {
        if (!within(what, 0, 1)) {
            return NONE;
        }
        if (!askedDays(n)) {
            return BAD;
        }
        startTrial();
        int least = trial.depth;
        int behind = 0;
        for (int i = 1; i <= n; i++) {
            goTrial(1);
            if (trial.depth < least) {
                least = trial.depth;
                behind = i;
            }
        }
        return what == 0 ? least : behind;
    }

    public int first() {
        startTrial();
        for (int i = 0; i <= MOST_ASKED_DAYS; i++) {
            goTrial(1);
            if (trial.turned > 0) {
                return i;
            }
        }
        return NOBODY;
    }

    // ---- what is best

    public int best(int what) {
        switch (what) {
            case 0: return whomToCall();
            case 1: return whoComesAhead();
            case 2: return bestMark();
            case 3: return turnedAsAllIs();
            default: return NONE;
        }
    }

    public int seldom(int borrower) {
        if (!known(borrower)) {
            return NONE;
        }
        int best = NOBODY;
        int least = 0;
        for (int every = 1; every <= MOST_EVERY; every++) {
            startTrial();
            trial.every[borrower] = every;
            int turned = turnedOfTrial(rules().mark);
            if (best == NOBODY || turned < least) {
                least = turned;
                best = every;
            }
        }
        return best;
    }

    public int more(int n) {
        if (!within(n, 1, 12)) {
            return BAD;
        }
        for (int extra = 0; extra <= 990; extra += 10) {
            startTrial();
            trial.rise(extra);
            if (nobodySentIn(n, NOBODY)) {
                return extra;
            }
        }
        return NOBODY;
    }

    // ---- seen, odds

    public int see(int depth, int n) {
        if (depth == -1) {
            hand.seenCount = 0;
            return 0;
        }
        if (!within(depth, 0, MOST_DEPTH) || !within(n, 0, 10)) {
            return BAD;
        }
        return hand.seenCount >= Hand.MOST_SEEN ? FULL : hand.addSeen(depth, n);
    }

    public int wanted(int borrower, int what) {
        if (!known(borrower) || !within(what, 0, 1)) {
            return NONE;
        }
        int fitting = 0;
        int least = NOBODY;
        for (int wants = MOST_WANTS; wants >= 1; wants--) {
            startTrial();
            trial.wants[borrower] = wants;
            if (trialShowsAllSeen()) {
                fitting++;
                least = wants;
            }
        }
        return what == 0 ? fitting : least;
    }

    public int can(int borrower, int what) {
        if (!known(borrower) || !within(what, 0, 1)) {
            return NONE;
        }
        int fitting = 0;
        int least = NOBODY;
        for (int v = 9; v >= 0; v--) {
            startTrial();
            trial.v[borrower] = v;
            if (trialShowsAllSeen()) {
                fitting++;
                least = v;
            }
        }
        return what == 0 ? fitting : least;
    }

    public long odds(int n, int part) {
        if (now.count == 0 || !askedDays(n) || !within(part, 0, 1)) {
            return NO;
        }
        int good = 0;
        for (int b = 0; b < now.count; b++) {
            startTrial();
            if (nobodySentIn(n, b)) {
                good++;
            }
        }
        return lowestTerms(good, now.count, part);
    }

    public long mean(int n, int part) {
        if (now.count == 0 || !askedDays(n) || !within(part, 0, 1)) {
            return NO;
        }
        startTrial();
        goTrial(n);
        return lowestTerms(trial.owesOfAll(), now.count, part);
    }

    // ---- years, books

    public int year(int what, int borrower) {
        if (what == -1) {
            hand.yearCount = 0;
            return 0;
        }
        if (!within(what, 0, 2) || what == Hand.CALLED && !known(borrower)) {
            return NONE;
        }
        return hand.yearCount >= Hand.MOST_YEAR ? FULL : hand.addYear(what, borrower);
    }

    public int gone(int what) {
        if (!within(what, 0, 1)) {
            return NONE;
        }
        startTrial();
        for (int i = 0; i < hand.yearCount; i++) {
            goYearRow(hand.yearWhat[i], hand.yearWho[i]);
        }
        return what == 0 ? trial.depth : trial.turned;
    }

    public int book(int borrower, int owes) {
        if (borrower == -1) {
            hand.bookCount = 0;
            return 0;
        }
        if (!known(borrower)) {
            return NONE;
        }
        if (!within(owes, 0, MOST_OWES)) {
            return BAD;
        }
        return hand.bookCount >= Hand.MOST_BOOK ? FULL : hand.addBook(borrower, owes);
    }

    public int looked() {
        for (int i = 0; i < hand.bookCount; i++) {
            int who = hand.bookWho[i];
            if (known(who) && now.owes[who] != hand.bookOwes[i]) {
                return i;
            }
        }
        return NOBODY;
    }

    // ---- judging, the image, acts, tapes

    public int judge(int tape, int i) {
        if (!tapes.known(tape)) {
            return NONE;
        }
        if (tapes.holds(tape) && tapes.sort[tape] != Tapes.INTS) {
            return CAST;
        }
        for (int b = 0; b < now.count; b++) {
            if (!tapes.hasPlace(tape, (long) i + b)) {
                return 100 + b;
            }
            if (tapes.items[tape][i + b] != now.has[b]) {
                return b;
            }
        }
        return NOBODY;
    }

    public int image() {
        kept.copyFrom(now);
        keptHand.copyFrom(hand);
        keptHolding = holding;
        imaged = true;
        return now.count;
    }

    public int undo() {
        if (!imaged) {
            return STATE;
        }
        now.copyFrom(kept);
        hand.copyFrom(keptHand);
        holding = keptHolding;
        return now.count;
    }

    public int act(int borrower, int act, int x) {
        actor.forget();
        if (!known(borrower) || !within(act, 0, 2)) {
            return 0;
        }
        return actor.perform(now, borrower, act, x);
    }

    public int trace(int i) {
        return actor.traced(i);
    }

    public int taken(int borrower, int k) {
        if (!within(k, 0, KINDS - 1)) {
            return BAD;
        }
        if (!known(borrower)) {
            return NOTHING;
        }
        int kind = now.kind[borrower];
        return isUnder(kind, k) ? kind : CAST;
    }

    public int count(int what) {
        switch (what) {
            case 0: return now.count;
            case 1: return made;
            case 2: return hand.seenCount;
            case 3: return hand.yearCount;
            case 4: return hand.bookCount;
            case 5: return reader.length;
            case 6: return actor.ran;
            default: return BAD;
        }
    }

    public int tape(int tape, int sort, int n) {
        if (!tapes.known(tape)) {
            return NONE;
        }
        if (sort == Tapes.EMPTY) {
            tapes.sort[tape] = Tapes.EMPTY;
            return 1;
        }
        if (!within(sort, 0, Tapes.BOOLEANS) || n > Tapes.MOST_ITEMS) {
            return BAD;
        }
        if (n < 0) {
            return SIZE;
        }
        tapes.make(tape, sort, n);
        return 1;
    }

    public int item(int tape, int i, long v) {
        if (!tapes.known(tape)) {
            return NONE;
        }
        if (!tapes.holds(tape)) {
            return NOTHING;
        }
        if (!tapes.hasPlace(tape, i)) {
            return PLACE;
        }
        tapes.items[tape][i] = Tapes.cut(tapes.sort[tape], v);
        return 1;
    }

    public long read(int tape, int i) {
        if (!tapes.known(tape) || !tapes.hasPlace(tape, i)) {
            return NO;
        }
        return tapes.items[tape][i];
    }

    public int shift(int tape, int i, int other, int j, int n) {
        if (!tapes.known(tape) || !tapes.known(other)) {
            return NONE;
        }
        if (!tapes.holds(tape) || !tapes.holds(other)) {
            return NOTHING;
        }
        if (tapes.sort[tape] != tapes.sort[other]) {
            return CAST;
        }
        if (!tapes.hasRoom(tape, i, n) || !tapes.hasRoom(other, j, n)) {
            return PLACE;
        }
        System.arraycopy(tapes.items[tape], i, tapes.items[other], j, n);
        return n;
    }

    // ---- what the calls share

    private static boolean within(int n, int least, int most) {
        return n >= least && n <= most;
    }

    private static boolean askedDays(int n) {
        return within(n, 0, MOST_ASKED_DAYS);
    }

    /** Whether a borrower has this number; a place of the line is known by the same bound. */
    private boolean known(int borrower) {
        return within(borrower, 0, now.count - 1);
    }

    private Country rules() {
        return within(holding, 0, made - 1) ? countries[holding] : plain;
    }

    private static boolean isUnder(int kind, int wanted) {
        int at = kind;
        for (int i = 0; i < KINDS && at >= 0; i++) {
            if (at == wanted) {
                return true;
            }
            at = ABOVE[at];
        }
        return false;
    }

    private static long lowestTerms(long above, long below, int part) {
        long divisor = commonDivisor(above, below);
        if (divisor == 0) {
            return NO;
        }
        return part == 0 ? above / divisor : below / divisor;
    }

    private static long commonDivisor(long one, long other) {
        long a = one;
        long b = other;
        for (int i = 0; i < 100 && b != 0; i++) {
            long rest = a % b;
            a = b;
            b = rest;
        }
        return a;
    }

    // ---- trials: what is asked of days to come goes on in a copy

    private void startTrial() {
        trial.copyFrom(now);
    }

    private void goTrial(int days) {
        Country rules = rules();
        for (int i = 0; i < days; i++) {
            trial.goDay(rules, rules.mark, NOBODY);
        }
    }

    private int turnedOfTrial(int mark) {
        Country rules = rules();
        for (int i = 0; i < TURNED_DAYS; i++) {
            trial.goDay(rules, mark, NOBODY);
        }
        return trial.turned;
    }

    private int turnedAsAllIs() {
        startTrial();
        return turnedOfTrial(rules().mark);
    }

    private int whomToCall() {
        int mark = rules().mark;
        int best = NOBODY;
        startTrial();
        int least = turnedOfTrial(mark);
        for (int b = 0; b < now.count; b++) {
            if (now.has[b] > 0) {
                startTrial();
                trial.callIn(b);
                int turned = turnedOfTrial(mark);
                if (turned < least) {
                    least = turned;
                    best = b;
                }
            }
        }
        return best;
    }

    private int whoComesAhead() {
        int mark = rules().mark;
        int best = NOBODY;
        startTrial();
        int least = turnedOfTrial(mark);
        for (int one = 0; one < now.count; one++) {
            for (int other = one + 1; other < now.count; other++) {
                startTrial();
                trial.trade(one, other);
                int turned = turnedOfTrial(mark);
                if (turned < least) {
                    least = turned;
                    best = 10 * one + other;
                }
            }
        }
        return best;
    }

    private int bestMark() {
        int best = NOBODY;
        int least = 0;
        for (int mark = 0; mark <= 95; mark += 5) {
            startTrial();
            int turned = turnedOfTrial(mark);
            if (best == NOBODY || turned <= least) {
                least = turned;
                best = mark;
            }
        }
        return best;
    }

    private boolean nobodySentIn(int days, int absent) {
        Country rules = rules();
        for (int i = 0; i < days && trial.turned == 0; i++) {
            trial.goDay(rules, rules.mark, absent);
        }
        return trial.turned == 0;
    }

    private boolean trialShowsAllSeen() {
        int farthest = hand.farthestSeen();
        for (int behind = 0; behind <= farthest; behind++) {
            if (!hand.seenFits(behind, trial.depth)) {
                return false;
            }
            goTrial(1);
        }
        return true;
    }

    private void goYearRow(int what, int who) {
        if (what == Hand.A_DAY) {
            goTrial(1);
        } else if (what == Hand.CALLED && known(who)) {
            trial.callIn(who);
        } else if (what == Hand.DEEPER) {
            trial.rise(10);
        }
    }

    /** The well, its borrowers, the line and the day: all that days change. */
    private static final class Well {
        int depth = 100;
        int day = 0;
        int count = 0;
        /** How many were sent away, all together, since this was copied: unlike SENT it may pass any bound. */
        int turned = 0;
        final int[] kind = new int[MOST_BORROWERS];
        final int[] v = new int[MOST_BORROWERS];
        final int[] wants = new int[MOST_BORROWERS];
        final int[] every = new int[MOST_BORROWERS];
        final int[] has = new int[MOST_BORROWERS];
        final int[] left = new int[MOST_BORROWERS];
        final int[] owes = new int[MOST_BORROWERS];
        final int[] sent = new int[MOST_BORROWERS];
        final int[] line = new int[MOST_BORROWERS];
        final int[] rows = new int[MOST_BORROWERS * 4];

        void copyFrom(Well other) {
            depth = other.depth;
            day = other.day;
            count = other.count;
            turned = 0;
            for (int b = 0; b < MOST_BORROWERS; b++) {
                kind[b] = other.kind[b];
                v[b] = other.v[b];
                wants[b] = other.wants[b];
                every[b] = other.every[b];
                has[b] = other.has[b];
                left[b] = other.left[b];
                owes[b] = other.owes[b];
                sent[b] = other.sent[b];
                line[b] = other.line[b];
            }
            System.arraycopy(other.rows, 0, rows, 0, MOST_BORROWERS * 4);
        }

        int join(int itsKind, int itsV, int itsWants, int itsEvery) {
            int b = count;
            if (b >= MOST_BORROWERS) {
                return FULL;
            }
            kind[b] = itsKind;
            v[b] = itsV;
            wants[b] = itsWants;
            every[b] = itsEvery;
            // one that comes has nothing, whoever else of this number an undo may have taken back
            has[b] = 0;
            left[b] = 0;
            owes[b] = 0;
            sent[b] = 0;
            line[b] = b;
            for (int part = 0; part < 4; part++) {
                rows[b * 4 + part] = 0;
            }
            count++;
            return b;
        }

        void trade(int one, int other) {
            int was = line[one];
            line[one] = line[other];
            line[other] = was;
        }

        void rise(int more) {
            depth = Math.min(MOST_DEPTH, depth + more);
        }

        void callIn(int b) {
            rise(has[b]);
            has[b] = 0;
            left[b] = 0;
        }

        int owesOfAll() {
            int sum = 0;
            for (int b = 0; b < count; b++) {
                sum += owes[b];
            }
            return sum;
        }

        int asks(int b, int mark) {
            switch (kind[b]) {
                case GREEDY: return 2 * wants[b];
                case TAKING: return Math.min(2 * wants[b], Math.max(0, depth - mark));
                case TOLD: return wants[b] + rows[b * 4 + Math.floorMod(day, 4)];
                default: return wants[b];
            }
        }

        int keeps(int b) {
            return kind[b] == LATE || kind[b] == STRAY ? 3 + v[b] : 3;
        }

        boolean staysAway(int b) {
            return kind[b] == STRAY && owes[b] > 30;
        }

        int bringsBack(int b) {
            return kind[b] == LOSING || kind[b] == TOLD ? has[b] - has[b] / 10 : has[b];
        }

        /** A day with the mark given, as it may be another than the country's; one may be absent: it does not come. */
        void goDay(Country rules, int mark, int absent) {
            for (int place = 0; place < count; place++) {
                int b = line[place];
                if (has[b] > 0) {
                    keepOn(b, rules);
                } else if (b != absent && every[b] > 0 && day % every[b] == 0) {
                    comeAsking(b, mark, rules.fine);
                }
            }
            rise(rules.spring);
            day++;
        }

        private void keepOn(int b, Country rules) {
            owes[b] = Math.min(MOST_OWES, owes[b] + rules.rate(this, b) * has[b] / 10);
            left[b] = Math.max(0, left[b] - 1);
            if (left[b] > 0) {
                return;
            }
            if (staysAway(b)) {
                left[b] = keeps(b);
            } else {
                rise(bringsBack(b));
                has[b] = 0;
            }
        }

        private void comeAsking(int b, int mark, int fine) {
            int asked = asks(b, mark);
            if (asked > 0 && depth - asked >= mark) {
                has[b] = asked;
                depth -= asked;
                left[b] = keeps(b);
            } else {
                sent[b]++;
                turned++;
                owes[b] = Math.max(0, owes[b] - fine);
            }
        }
    }

    /** What is told by hand: what was seen, a year, a book. */
    private static final class Hand {
        static final int MOST_SEEN = 5, MOST_YEAR = 10, MOST_BOOK = 8;
        static final int A_DAY = 0, CALLED = 1, DEEPER = 2;
        int seenCount = 0;
        int yearCount = 0;
        int bookCount = 0;
        final int[] seenDepth = new int[MOST_SEEN];
        final int[] seenBehind = new int[MOST_SEEN];
        final int[] yearWhat = new int[MOST_YEAR];
        final int[] yearWho = new int[MOST_YEAR];
        final int[] bookWho = new int[MOST_BOOK];
        final int[] bookOwes = new int[MOST_BOOK];

        void copyFrom(Hand other) {
            seenCount = other.seenCount;
            yearCount = other.yearCount;
            bookCount = other.bookCount;
            System.arraycopy(other.seenDepth, 0, seenDepth, 0, MOST_SEEN);
            System.arraycopy(other.seenBehind, 0, seenBehind, 0, MOST_SEEN);
            System.arraycopy(other.yearWhat, 0, yearWhat, 0, MOST_YEAR);
            System.arraycopy(other.yearWho, 0, yearWho, 0, MOST_YEAR);
            System.arraycopy(other.bookWho, 0, bookWho, 0, MOST_BOOK);
            System.arraycopy(other.bookOwes, 0, bookOwes, 0, MOST_BOOK);
        }

        int addSeen(int depth, int behind) {
            if (seenCount < MOST_SEEN) {
                seenDepth[seenCount] = depth;
                seenBehind[seenCount] = behind;
                seenCount++;
            }
            return seenCount;
        }

        int addYear(int what, int who) {
            if (yearCount < MOST_YEAR) {
                yearWhat[yearCount] = what;
                yearWho[yearCount] = who;
                yearCount++;
            }
            return yearCount;
        }

        int addBook(int who, int owes) {
            if (bookCount < MOST_BOOK) {
                bookWho[bookCount] = who;
                bookOwes[bookCount] = owes;
                bookCount++;
            }
            return bookCount;
        }

        int farthestSeen() {
            int farthest = -1;
            for (int i = 0; i < seenCount; i++) {
                farthest = Math.max(farthest, seenBehind[i]);
            }
            return farthest;
        }

        boolean seenFits(int behind, int depth) {
            for (int i = 0; i < seenCount; i++) {
                if (seenBehind[i] == behind && seenDepth[i] != depth) {
                    return false;
                }
            }
            return true;
        }
    }

    /** A country as it was read: its numbers, and its prices with their conditions, operands first. */
    private static final class Country {
        static final int MOST_CLAUSES = 10, DEFAULT_MARK = 10;
        static final int LESS = 0, ALIKE = 1, GREATER = 2, NOT = 3, AND = 4, OR = 5;
        /** The signs of the steps LESS, ALIKE, GREATER, as their numbers go. */
        static final String SIGNS = "<=>";
        /** What a test can look at, as its letter stands here. */
        static final String LETTERS = "bkvhld";
        int mark = DEFAULT_MARK;
        int spring = 0;
        int fine = 0;
        private int prices = 0;
        private int used = 0;
        /** What each price adds: cheap ones are below 0. */
        private final int[] price = new int[MOST_CLAUSES];
        /** Where each price's condition ends; it begins where the one ahead ends. */
        private final int[] ends = new int[MOST_CLAUSES];
        // each step of a condition takes a byte of the text at least, so there are never more
        private final int[] step = new int[Reader.MOST_TEXT];
        private final int[] about = new int[Reader.MOST_TEXT];
        private final int[] number = new int[Reader.MOST_TEXT];
        /** The numbers of the borrower looked at, in the order of LETTERS: looked up once for all prices. */
        private final int[] facts = new int[6];

        void clear() {
            mark = DEFAULT_MARK;
            spring = 0;
            fine = 0;
            prices = 0;
            used = 0;
        }

        void addStep(int itsStep, int itsLetter, int itsNumber) {
            if (used < Reader.MOST_TEXT) {
                step[used] = itsStep;
                about[used] = itsLetter;
                number[used] = itsNumber;
                used++;
            }
        }

        void addPrice(int n) {
            if (prices < MOST_CLAUSES) {
                price[prices] = n;
                ends[prices] = used;
                prices++;
            }
        }

        int rate(Well well, int b) {
            facts[0] = b;
            facts[1] = well.kind[b];
            facts[2] = well.v[b];
            facts[3] = well.has[b] / 10;
            facts[4] = well.left[b];
            facts[5] = well.day % 10;
            int sum = 1;
            int from = 0;
            for (int i = 0; i < prices; i++) {
                if (conditionHolds(from, ends[i])) {
                    sum += price[i];
                }
                from = ends[i];
            }
            return Math.max(0, sum);
        }

        /** The stack is the bits of a number: with 4 nestings at most it never holds more than a dozen. */
        private boolean conditionHolds(int from, int to) {
            int stack = 0;
            for (int i = from; i < to; i++) {
                int fact = facts[about[i]];
                switch (step[i]) {
                    case LESS:
                        stack = stack << 1 | (fact < number[i] ? 1 : 0);
                        break;
                    case ALIKE:
                        stack = stack << 1 | (fact == number[i] ? 1 : 0);
                        break;
                    case GREATER:
                        stack = stack << 1 | (fact > number[i] ? 1 : 0);
                        break;
                    case NOT:
                        stack ^= 1;
                        break;
                    case AND:
                        stack = (stack >> 1) & (stack | ~1);
                        break;
                    default:
                        stack = (stack >> 1) | (stack & 1);
                        break;
                }
            }
            return (stack & 1) == 1;
        }
    }

    /** The text, and how it is read: one sign at a time decides, so the first that fits nothing is the fault. */
    private static final class Reader {
        static final int MOST_TEXT = 100, MOST_NESTED = 4, END = -1;
        int length = 0;
        private int at = 0;
        private boolean faulty = false;
        private final int[] text = new int[MOST_TEXT];
        private Country country = new Country();

        void take(int sign) {
            if (length < MOST_TEXT) {
                text[length] = sign;
                length++;
            }
        }

        /** The place of the fault; -1: there is none. */
        int readInto(Country into) {
            country = into;
            country.clear();
            at = 0;
            faulty = false;
            readClause();
            for (int i = 1; i < Country.MOST_CLAUSES && !faulty && sign() == ';'; i++) {
                at++;
                readClause();
            }
            return faulty || at < length ? at : -1;
        }

        private int sign() {
            return at < length && at < MOST_TEXT ? text[at] : END;
        }

        /** A fault keeps its place: nothing is read behind it. */
        private void expect(int due) {
            if (faulty || sign() != due) {
                faulty = true;
            } else {
                at++;
            }
        }

        private void expectWord(String word) {
            for (int i = 0; i < word.length(); i++) {
                expect(word.charAt(i));
            }
        }

        private void readClause() {
            int begin = sign();
            expectWord(wordOf(begin));
            int n = readNumber();
            switch (begin) {
                case 'm':
                    country.mark = n;
                    break;
                case 's':
                    country.spring = n;
                    break;
                case 'f':
                    country.fine = n;
                    break;
                default:
                    expect(' ');
                    readEither(0);
                    country.addPrice(begin == 'd' ? n : -n);
                    break;
            }
        }

        /** No two words begin alike; where none begins, any of them finds the fault in its first sign. */
        private static String wordOf(int begin) {
            switch (begin) {
                case 'c': return "cheap ";
                case 'm': return "mark ";
                case 's': return "spring ";
                case 'f': return "fine ";
                default: return "dear ";
            }
        }

        private int readNumber() {
            int n = 0;
            int digits = 0;
            while (digits < 2 && !faulty && sign() >= '0' && sign() <= '9') {
                n = n * 10 + sign() - '0';
                at++;
                digits++;
            }
            faulty = faulty || digits == 0;
            return n;
        }

        /** Parts with & bind closer than those with |: each run of them is joined before the | that stands ahead. */
        private void readEither(int nested) {
            boolean again = true;
            for (int i = 0; i < MOST_TEXT && again; i++) {
                readPart(nested);
                for (int j = 0; j < MOST_TEXT && !faulty && sign() == '&'; j++) {
                    at++;
                    readPart(nested);
                    country.addStep(Country.AND, 0, 0);
                }
                if (i > 0) {
                    country.addStep(Country.OR, 0, 0);
                }
                again = !faulty && sign() == '|';
                at += again ? 1 : 0;
            }
        }

        private void readPart(int nested) {
            if (faulty) {
                return;
            }
            if (sign() == '!' && nested < MOST_NESTED) {
                at++;
                readPart(nested + 1);
                country.addStep(Country.NOT, 0, 0);
            } else if (sign() == '(' && nested < MOST_NESTED) {
                at++;
                readEither(nested + 1);
                expect(')');
            } else {
                readTest();
            }
        }

        private void readTest() {
            int letter = placeOf(sign(), Country.LETTERS);
            if (letter < 0) {
                faulty = true;
                return;
            }
            at++;
            int step = placeOf(sign(), Country.SIGNS);
            if (step < 0) {
                faulty = true;
                return;
            }
            at++;
            country.addStep(step, letter, readNumber());
        }

        private static int placeOf(int sign, String signs) {
            for (int i = 0; i < signs.length(); i++) {
                if (signs.charAt(i) == sign) {
                    return i;
                }
            }
            return -1;
        }
    }

    /** Acts, and the trace of the bodies that ran in the latest one. */
    private static final class Actor {
        private static final int SINKS = 0, BORROWS = 1, TELLS = 2;
        private static final int MOST_TRACED = 20, MOST_OPEN = 40;
        /** For each kind the bodies of its own that sink, borrow, tell; 0: it has none. */
        private static final int[] BODIES = {
            10, 11, 12,
            0, 20, 0,
            30, 0, 0,
            0, 0, 40,
            50, 51, 0,
            0, 0, 60,
            71, 70, 0};
        int ran = 0;
        private final int[] trace = new int[MOST_TRACED];
        private int number = 0;
        private int kind = 0;
        private int v = 0;

        void forget() {
            ran = 0;
        }

        int traced(int i) {
            return i >= 0 && i < ran && i < MOST_TRACED ? trace[i] : NONE;
        }

        int perform(Well well, int b, int act, int x) {
            number = b;
            kind = well.kind[b];
            v = well.v[b];
            return from(kind, act, x, 0);
        }

        /** The body that a kind has, or the next kind above it that has one. */
        private int from(int start, int act, int x, int open) {
            if (open > MOST_OPEN) {
                return 0;
            }
            int owner = start;
            for (int i = 0; i < KINDS && owner > BORROWER && BODIES[owner * 3 + act] == 0; i++) {
                owner = ABOVE[owner];
            }
            if (owner < BORROWER || owner >= KINDS) {
                return 0;
            }
            int body = BODIES[owner * 3 + act];
            if (ran < MOST_TRACED) {
                trace[ran] = body;
            }
            ran++;
            return run(body, ABOVE[owner], x, open + 1);
        }

        private int run(int body, int above, int x, int open) {
            switch (body) {
                case 10: return x + number;
                case 11: return from(kind, SINKS, x, open) - v;
                case 12: return from(kind, BORROWS, x, open) * 2;
                case 20: return from(above, BORROWS, x, open) ^ 6;
                case 30: return from(above, SINKS, x * 3, open);
                case 40: return from(above, TELLS, x, open) + from(kind, BORROWS, 1, open);
                case 50: return -from(above, SINKS, x, open);
                case 51: return from(above, BORROWS, x + 1, open);
                case 60: return from(above, TELLS, x - number, open);
                case 70: return from(above, BORROWS, x, open) + from(above, SINKS, 2, open);
                case 71: return from(above, SINKS, x, open) ^ v;
                default: return 0;
            }
        }
    }

    /** Rows of numbers; each item is held as the long that it is read as. */
    private static final class Tapes {
        static final int MOST_TAPES = 6, MOST_ITEMS = 60;
        static final int EMPTY = -1, BYTES = 0, SHORTS = 1, INTS = 2, LONGS = 3, BOOLEANS = 4;
        final int[] sort = new int[MOST_TAPES];
        final int[] size = new int[MOST_TAPES];
        final long[][] items = new long[MOST_TAPES][MOST_ITEMS];

        Tapes() {
            for (int tape = 0; tape < MOST_TAPES; tape++) {
                sort[tape] = EMPTY;
            }
        }

        boolean known(int tape) {
            return tape >= 0 && tape < MOST_TAPES;
        }

        boolean holds(int tape) {
            return sort[tape] != EMPTY;
        }

        boolean hasPlace(int tape, long i) {
            return holds(tape) && i >= 0 && i < size[tape];
        }

        boolean hasRoom(int tape, int i, int n) {
            return i >= 0 && n >= 0 && (long) i + n <= size[tape];
        }

        void make(int tape, int itsSort, int n) {
            sort[tape] = itsSort;
            size[tape] = n;
            for (int i = 0; i < MOST_ITEMS; i++) {
                items[tape][i] = 0;
            }
        }

        static long cut(int sort, long v) {
            switch (sort) {
                case BYTES: return (byte) v;
                case SHORTS: return (short) v;
                case INTS: return (int) v;
                case BOOLEANS: return v != 0 ? 1 : 0;
                default: return v;
            }
        }
    }
}
