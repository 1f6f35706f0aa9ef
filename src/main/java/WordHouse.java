import java.util.NoSuchElementException;

/** Words pay rent. The promises stand in DOC.md; words in capitals are its terms. */
public final class WordHouse {
    public static final int NONE = -1;

    private static final int NEVER = -2;
    private static final int NO_SHARE = -100;

    private static final int TAPE = 900;
    private static final int FEED = 20;
    private static final int ENTRIES = 8;
    private static final int MEANINGS_EACH = 2;
    private static final int MEANINGS = 12;
    private static final int RHYMES = 6;
    private static final int SPEAKERS = 4;
    private static final int SAYINGS = 14;
    private static final int UNSURES = 4;

    private static final int PEDANT = 0;
    private static final int CHILD = 1;
    private static final int SAILOR = 2;

    private static final int MOST_GRACE = 3;
    private static final int MOST_RENT = 60;
    private static final int MOST_TIMES = 40;
    private static final int LAST_YEAR = 99;
    private static final int LAST_LEFT = 12;
    private static final int FORESEEN = 60;
    private static final int KEPT_YEARS = 20;
    private static final int MOST_MORE = 99;
    private static final int MOST_SAID = 99;
    private static final int MOST_SAID_AT_ONCE = 20;
    private static final int MOST_INK = 9;
    private static final int HUNDRED = 100;
    private static final int SEED_MODULUS = 65537;
    private static final int UNDOS = 16;
    private static final int IMAGES = 3;

    private static final int NO_SUCH = 1;
    private static final int BAD_NUMBER = 2;
    private static final int NO_ROOM = 3;
    private static final int BAD_TEXT = 4;
    private static final int NOT_SO = 5;
    private static final int THERE_IS_NONE = 6;

    private final Reader reader;
    private final Years years;
    private final Past past;
    private final State now;
    private final State trial;
    private Told told;
    private Told spare;
    private int fitting;
    private int misjudged;
    private int trouble;

    public WordHouse() {
        told = new Told();
        spare = new Told();
        reader = new Reader(spare);
        years = new Years();
        past = new Past();
        now = new State();
        trial = new State();
    }

    // ---- the house

    public int feed(int a, int b, int c, int d, int e) {
        if (!reader.hasRoom(FEED)) return NONE;
        reader.put(a);
        reader.put(b);
        reader.put(c);
        reader.put(d);
        reader.put(e);
        return reader.fed();
    }

    public int house(int n) {
        if (n < 0 || n > reader.fed()) return refused(BAD_NUMBER);
        if (!reader.read(n, spare)) return refused(BAD_TEXT);
        Told old = told;
        told = spare;
        spare = old;
        now.begin(told.entries);
        past.clear();
        fitting = setsThatFit();
        misjudged = misfits(0);
        return granted(told.entries);
    }

    public int fault() {
        return reader.faultMet();
    }

    public int where() {
        return trouble == BAD_TEXT ? reader.faultPlace() : NONE;
    }

    // ---- now

    public int entry(int e, int what) {
        if (!told.isEntry(e)) return refused(NO_SUCH);
        switch (what) {
            case 0: return granted(told.rent[e]);
            case 1: return granted(has(now.in, e) ? 1 : 0);
            case 2: return granted(now.behind[e]);
            case 3: return granted(now.said[e]);
            case 4: return granted(told.meaningsOf[e]);
            case 5: return granted(told.rhymesWith[e]);
            case 6: return granted(told.explainedBy(e));
            default: return refused(NO_SUCH);
        }
    }

    public int meaning(int e, int k) {
        if (!told.isMeaning(e, k)) return refused(NO_SUCH);
        return granted(told.meaning[e * MEANINGS_EACH + k]);
    }

    public int speaker(int p, int what) {
        if (!told.isSpeaker(p)) return refused(NO_SUCH);
        switch (what) {
            case 0: return granted(told.kind[p]);
            case 1: return granted(told.saidBy(p));
            default: return refused(NO_SUCH);
        }
    }

    public int saysIn(int p, int e, int year) {
        if (!told.isSpeaker(p) || !told.isEntry(e)) return refused(NO_SUCH);
        if (!isYear(year)) return refused(BAD_NUMBER);
        int s = told.findSaying(p, e);
        return granted(s == NONE ? 0 : told.timesIn(s, year, 0));
    }

    public int uses(int e, int year) {
        if (!told.isEntry(e)) return refused(NO_SUCH);
        if (!isYear(year)) return refused(BAD_NUMBER);
        years.count(told, now, year, 0, 0);
        return granted(years.used(e));
    }

    public int pays(int e, int year) {
        if (!told.isEntry(e)) return refused(NO_SUCH);
        if (!isYear(year)) return refused(BAD_NUMBER);
        if (!has(now.in, e)) return refused(NOT_SO);
        years.count(told, now, year, 0, 0);
        return granted(years.canPay(told, now.in, e) ? 1 : 0);
    }

    public int lodgers() {
        if (!isHouse()) return refused(NO_SUCH);
        return granted(now.in);
    }

    public int debtors() {
        if (!isHouse()) return refused(NO_SUCH);
        years.count(told, now, now.gone + 1, 0, 0);
        return granted(years.unpaidAmong(told, now.in));
    }

    // ---- years

    public int after(int n) {
        if (!isHouse()) return refused(NO_SUCH);
        if (!isForeseen(n)) return refused(BAD_NUMBER);
        trial.copyFrom(now);
        for (int y = 0; y < n; y++) years.pass(told, trial, 0, 0);
        return granted(trial.in);
    }

    public int outIn(int e) {
        if (!told.isEntry(e)) return refused(NO_SUCH);
        return granted(yearsUntilOut(1 << e));
    }

    public int emptyIn() {
        if (!isHouse()) return refused(NO_SUCH);
        return granted(yearsUntilOut(now.in));
    }

    public int pillar() {
        if (!isHouse()) return refused(NO_SUCH);
        int best = NEVER;
        int most = 0;
        for (int e = 0; e < told.entries; e++) {
            if (!has(now.in, e)) continue;
            int going = Integer.bitCount(goingWith(e));
            if (going > most) {
                most = going;
                best = e;
            }
        }
        return granted(best);
    }

    public int goWith(int e) {
        if (!told.isEntry(e)) return refused(NO_SUCH);
        if (!has(now.in, e)) return refused(NOT_SO);
        return granted(goingWith(e));
    }

    public int keep(int e) {
        if (!told.isEntry(e)) return refused(NO_SUCH);
        if (!has(now.in, e)) return refused(NOT_SO);
        return granted(leastToKeep(e));
    }

    public int dearest() {
        if (!isHouse()) return refused(NO_SUCH);
        int best = NEVER;
        int most = NEVER;
        for (int e = 0; e < told.entries; e++) {
            if (!has(now.in, e)) continue;
            int more = leastToKeep(e);
            if (more > most) {
                most = more;
                best = e;
            }
        }
        return granted(best);
    }

    // ---- rings

    public int rings() {
        if (!isHouse()) return refused(NO_SUCH);
        return granted(now.in & ~told.grounded(now.in, 0));
    }

    public int point() {
        if (!isHouse()) return refused(NO_SUCH);
        return granted(fewestToPoint());
    }

    public int depth(int e) {
        if (!told.isEntry(e)) return refused(NO_SUCH);
        return granted(told.depthOf(e, now.in));
    }

    public int fell() {
        if (!isHouse()) return refused(NO_SUCH);
        return granted(fewestToFell());
    }

    public int roots(int e) {
        if (!told.isEntry(e)) return refused(NO_SUCH);
        return granted(told.rootsOf(e));
    }

    public int circular(int e) {
        if (!told.isEntry(e)) return refused(NO_SUCH);
        return granted(has(told.rootsOf(e), e) ? 1 : 0);
    }

    // ---- nearness

    public int apart(int e, int other) {
        if (!told.isEntry(e) || !told.isEntry(other)) return refused(NO_SUCH);
        return granted(told.distance(e, other));
    }

    public int twins() {
        if (!isHouse()) return refused(NO_SUCH);
        int best = NEVER;
        int least = ENTRIES + 1;
        for (int e = 0; e < told.entries; e++) {
            for (int other = e + 1; other < told.entries; other++) {
                int far = told.distance(e, other);
                if (far < least) {
                    least = far;
                    best = 10 * e + other;
                }
            }
        }
        return granted(best);
    }

    public int chime(int e, int other) {
        if (!told.isEntry(e) || !told.isEntry(other)) return refused(NO_SUCH);
        return granted(told.rhymesBetween(e, other));
    }

    public int families() {
        if (!isHouse()) return refused(NO_SUCH);
        int count = 0;
        int met = 0;
        for (int e = 0; e < told.entries; e++) {
            if (has(met, e)) continue;
            met |= told.familyOf(e);
            count++;
        }
        return granted(count);
    }

    // ---- unsure sayings

    public int fits() {
        if (!isHouse()) return refused(NO_SUCH);
        return granted(Integer.bitCount(fitting));
    }

    public int fitAt(int i) {
        if (!isHouse() || i < 0 || i >= Integer.bitCount(fitting)) return refused(NO_SUCH);
        return granted(nthBit(fitting, i));
    }

    public int could() {
        if (!isHouse()) return refused(NO_SUCH);
        int some = 0;
        for (int set = 0; set < 1 << UNSURES; set++) {
            if (has(fitting, set)) some |= set;
        }
        return granted(some);
    }

    public int surely() {
        if (!isHouse()) return refused(NO_SUCH);
        if (fitting == 0) return granted(0);
        int all = (1 << told.unsures) - 1;
        for (int set = 0; set < 1 << UNSURES; set++) {
            if (has(fitting, set)) all &= set;
        }
        return granted(all);
    }

    public int ask() {
        if (!isHouse()) return refused(NO_SUCH);
        return granted(bestToAsk());
    }

    public int askLeaves() {
        if (!isHouse()) return refused(NO_SUCH);
        int u = bestToAsk();
        return granted(u == NEVER ? NEVER : mostLeftBy(u));
    }

    public int judge() {
        if (!isHouse()) return refused(NO_SUCH);
        return granted(misjudged == 0 ? NEVER : nthBit(misjudged, 0));
    }

    // ---- two pedants

    public int mends(int ink, boolean one, boolean other, boolean ofOther) {
        int refusal = inkRefusal(ink);
        if (refusal != 0) {
            refused(refusal);
            return NO_SHARE;
        }
        return granted(ofOther ? share(ink, other, one) : share(ink, one, other));
    }

    public int rests(int ink) {
        int refusal = inkRefusal(ink);
        if (refusal != 0) return refused(refusal);
        int count = 0;
        for (int pair = 0; pair < 4; pair++) {
            if (isRest(ink, pair)) count++;
        }
        return granted(count);
    }

    public int rest(int ink) {
        int refusal = inkRefusal(ink);
        if (refusal != 0) return refused(refusal);
        for (int pair = 0; pair < 4; pair++) {
            if (isRest(ink, pair)) return granted(10 * (pair >> 1) + (pair & 1));
        }
        return granted(NEVER);
    }

    // ---- moods

    public long odds(int e, boolean lower) {
        if (!told.isEntry(e)) return refused(NO_SUCH);
        if (!has(now.in, e)) return refused(NOT_SO);
        trouble = 0;
        long paying = 0;
        for (int silent = 0; silent < 1 << told.speakers; silent++) {
            years.count(told, now, now.gone + 1, silent, 0);
            if (years.canPay(told, now.in, e)) paying += told.likelihood(silent);
        }
        return ratio(paying, told.certainty(), lower);
    }

    public long mean(int e, boolean lower) {
        if (!told.isEntry(e)) return refused(NO_SUCH);
        trouble = 0;
        years.count(told, now, now.gone + 1, 0, 0);
        long said = now.said[e];
        long spoken = years.used(e) - said;
        return ratio(spoken * (HUNDRED - told.mood) + said * HUNDRED, HUNDRED, lower);
    }

    public long stays(int e, boolean lower) {
        if (!told.isEntry(e)) return refused(NO_SUCH);
        trouble = 0;
        long staying = 0;
        for (int silent = 0; silent < 1 << told.speakers; silent++) {
            trial.copyFrom(now);
            years.pass(told, trial, silent, 0);
            if (has(trial.in, e)) staying += told.likelihood(silent);
        }
        return ratio(staying, told.certainty(), lower);
    }

    public int moody(int seed, int n) {
        if (!isHouse()) return refused(NO_SUCH);
        if (!isSeed(seed) || !isForeseen(n)) return refused(BAD_NUMBER);
        trial.copyFrom(now);
        trial.seed = seed;
        for (int y = 0; y < n; y++) years.passMoody(told, trial);
        return granted(trial.in);
    }

    public int firstOut(int seed, int n) {
        if (!isHouse()) return refused(NO_SUCH);
        if (!isSeed(seed) || !isForeseen(n)) return refused(BAD_NUMBER);
        trial.copyFrom(now);
        trial.seed = seed;
        for (int y = 1; y <= n; y++) {
            if (years.passMoody(told, trial) != 0) return granted(y);
        }
        return granted(NEVER);
    }

    // ---- acts

    public int year() {
        if (!isHouse()) return refused(NO_SUCH);
        if (now.gone >= LAST_YEAR) return refused(NO_ROOM);
        past.remember(now);
        return granted(years.pass(told, now, 0, 0));
    }

    public int moodyYear() {
        if (!isHouse()) return refused(NO_SUCH);
        if (now.gone >= LAST_YEAR) return refused(NO_ROOM);
        past.remember(now);
        return granted(years.passMoody(told, now));
    }

    public int say(int e, int n) {
        if (!told.isEntry(e)) return refused(NO_SUCH);
        if (n < 1 || n > MOST_SAID_AT_ONCE) return refused(BAD_NUMBER);
        if (now.said[e] + n > MOST_SAID) return refused(NO_ROOM);
        past.remember(now);
        now.said[e] += n;
        return granted(now.said[e]);
    }

    public int evict(int e) {
        if (!told.isEntry(e)) return refused(NO_SUCH);
        if (!has(now.in, e)) return refused(NOT_SO);
        past.remember(now);
        return granted(now.keepOnly(now.in & ~goingWith(e)));
    }

    public boolean take(int e) {
        if (!told.isEntry(e)) return denied(NO_SUCH);
        if (has(now.in, e)) return denied(NOT_SO);
        if (!told.isExplained(e, now.in)) return denied(THERE_IS_NONE);
        past.remember(now);
        now.in |= 1 << e;
        now.behind[e] = 0;
        return allowed();
    }

    public boolean seed(int v) {
        if (!isHouse()) return denied(NO_SUCH);
        if (!isSeed(v)) return denied(BAD_NUMBER);
        now.seed = v;
        return allowed();
    }

    public boolean undo() {
        if (!past.takeBack(now)) return denied(THERE_IS_NONE);
        return allowed();
    }

    public int image() {
        if (!isHouse()) return refused(NO_SUCH);
        int number = past.keepImage(now);
        return number == NONE ? refused(NO_ROOM) : granted(number);
    }

    public boolean back(int image) {
        if (!past.returnTo(image, now)) return denied(NO_SUCH);
        return allowed();
    }

    // ---- what is told

    public int led(int i) throws NoSuchElementException {
        int out = ((1 << told.entries) - 1) & ~now.in;
        if (i < 0 || i >= Integer.bitCount(out)) throw new NoSuchElementException();
        return nthBit(out, i);
    }

    public int size(int what) {
        switch (what) {
            case 0: return told.grace;
            case 1: return told.mood;
            case 2: return told.entries;
            case 3: return told.meanings;
            case 4: return told.rhymes;
            case 5: return told.speakers;
            case 6: return told.sayings;
            case 7: return told.unsures;
            case 8: return Integer.bitCount(told.leavers);
            case 9: return now.gone;
            case 10: return now.seed;
            case 11: return past.undoable();
            case 12: return past.images();
            case 13: return reader.fed();
            default: return NONE;
        }
    }

    public int trouble() {
        return trouble;
    }

    // ---- answers and refusals

    private int granted(int answer) {
        trouble = 0;
        return answer;
    }

    private int refused(int number) {
        trouble = number;
        return NONE;
    }

    private boolean allowed() {
        trouble = 0;
        return true;
    }

    private boolean denied(int number) {
        trouble = number;
        return false;
    }

    // A HOUSE without an entry is a FAULT, so no entries means no HOUSE.
    private boolean isHouse() {
        return told.entries > 0;
    }

    private static boolean isYear(int year) {
        return year >= 1 && year <= LAST_YEAR;
    }

    private static boolean isForeseen(int n) {
        return n >= 0 && n <= FORESEEN;
    }

    private static boolean isSeed(int seed) {
        return seed >= 0 && seed < SEED_MODULUS;
    }

    private int inkRefusal(int ink) {
        if (!isHouse()) return NO_SUCH;
        return ink < 0 || ink > MOST_INK ? BAD_NUMBER : 0;
    }

    private static boolean has(int bits, int k) {
        return (bits >> k & 1) == 1;
    }

    private static int nthBit(int bits, int n) {
        int before = 0;
        for (int k = 0; k < 32; k++) {
            if (!has(bits, k)) continue;
            if (before == n) return k;
            before++;
        }
        return NONE;
    }

    // ---- what years bring

    private int yearsUntilOut(int some) {
        trial.copyFrom(now);
        if ((trial.in & some) == 0) return 0;
        for (int y = 1; y <= FORESEEN; y++) {
            years.pass(told, trial, 0, 0);
            if ((trial.in & some) == 0) return y;
        }
        return NEVER;
    }

    private int goingWith(int e) {
        return now.in & ~told.supported(now.in & ~(1 << e));
    }

    // Who is said more pays more often and helps more, and nobody is worse off by it:
    // so what keeps an entry, keeps it with any more, and halving finds the least.
    private int leastToKeep(int e) {
        if (!isKeptBy(e, MOST_MORE)) return NEVER;
        int low = 0;
        int high = MOST_MORE;
        for (int k = 0; k <= MOST_MORE && low < high; k++) {
            int middle = (low + high) >> 1;
            if (isKeptBy(e, middle)) {
                high = middle;
            } else {
                low = middle + 1;
            }
        }
        return low;
    }

    private boolean isKeptBy(int e, int more) {
        trial.copyFrom(now);
        trial.said[e] += more;
        for (int y = 0; y < KEPT_YEARS; y++) {
            years.pass(told, trial, 0, 0);
            if (!has(trial.in, e)) return false;
        }
        return true;
    }

    // ---- the fewest of the house

    // One that is GROUNDED anyway is in no fewest set, so only RINGS are tried.
    private int fewestToPoint() {
        int ringed = now.in & ~told.grounded(now.in, 0);
        int best = ringed;
        int fewest = Integer.bitCount(ringed);
        for (int set = 0; set < ringed; set++) {
            if ((set & ~ringed) != 0 || Integer.bitCount(set) >= fewest) continue;
            if (told.grounded(now.in, set) == now.in) {
                best = set;
                fewest = Integer.bitCount(set);
            }
        }
        return best;
    }

    private int fewestToFell() {
        int best = now.in;
        int fewest = Integer.bitCount(now.in);
        for (int set = 0; set < now.in; set++) {
            if ((set & ~now.in) != 0 || Integer.bitCount(set) >= fewest) continue;
            if (told.supported(now.in & ~set) == 0) {
                best = set;
                fewest = Integer.bitCount(set);
            }
        }
        return best;
    }

    // ---- which sets of unsure sayings fit what left

    private int setsThatFit() {
        int sets = 0;
        for (int set = 0; set < 1 << told.unsures; set++) {
            if (misfits(set) == 0) sets |= 1 << set;
        }
        return sets;
    }

    /** Those told to have left that go out in another year, or in none, as bits. */
    private int misfits(int others) {
        if (told.leavers == 0) return 0;
        trial.begin(told.entries);
        int wrong = 0;
        for (int y = 1; y <= LAST_LEFT; y++) {
            int out = years.pass(told, trial, 0, others);
            wrong |= (out & told.leavers) ^ told.leaversIn(y);
        }
        return wrong;
    }

    private int bestToAsk() {
        if (fitting == 0) return NEVER;
        int best = NEVER;
        int least = Integer.bitCount(fitting) + 1;
        for (int u = 0; u < told.unsures; u++) {
            int left = mostLeftBy(u);
            if (left < least) {
                least = left;
                best = u;
            }
        }
        return best;
    }

    private int mostLeftBy(int u) {
        int with = 0;
        int without = 0;
        for (int set = 0; set < 1 << UNSURES; set++) {
            if (!has(fitting, set)) continue;
            if (has(set, u)) {
                with++;
            } else {
                without++;
            }
        }
        return Math.max(with, without);
    }

    // ---- two pedants

    private static int share(int ink, boolean mends, boolean otherMends) {
        if (mends) return otherMends ? 1 - ink : 4;
        return otherMends ? 0 : 2;
    }

    private static boolean isRest(int ink, int pair) {
        boolean one = pair >> 1 == 1;
        boolean other = (pair & 1) == 1;
        return share(ink, !one, other) <= share(ink, one, other)
            && share(ink, !other, one) <= share(ink, other, one);
    }

    // ---- parts in lowest terms

    private static long ratio(long upper, long whole, boolean lower) {
        long common = commonDivisor(upper, whole);
        if (common == 0) return lower ? 1 : 0;
        return (lower ? whole : upper) / common;
    }

    private static long commonDivisor(long a, long b) {
        long greater = a;
        long lesser = b;
        for (int k = 0; k < 200 && lesser != 0; k++) {
            long rest = greater % lesser;
            greater = lesser;
            lesser = rest;
        }
        return greater;
    }

    /** The HOUSE as its text tells it: no ACT changes it. */
    private static final class Told {
        int grace;
        int mood;
        int entries;
        final int[] rent = new int[ENTRIES];
        int meanings;
        final int[] meaningsOf = new int[ENTRIES];
        final int[] meaning = new int[ENTRIES * MEANINGS_EACH];
        int rhymes;
        final int[] rhymesWith = new int[ENTRIES];
        int speakers;
        final int[] kind = new int[SPEAKERS];
        int sayings;
        final int[] sayer = new int[SAYINGS];
        final int[] sayingOf = new int[SAYINGS];
        final int[] times = new int[SAYINGS];
        int unsures;
        final int[] unsureOf = new int[SAYINGS];
        final int[] otherTimes = new int[UNSURES];
        int leavers;
        final int[] leftIn = new int[ENTRIES];

        void clear() {
            grace = 0;
            mood = 0;
            entries = 0;
            meanings = 0;
            rhymes = 0;
            speakers = 0;
            sayings = 0;
            unsures = 0;
            leavers = 0;
        }

        // Rows may still hold an earlier HOUSE: they are laid anew as each line comes.
        void addEntry(int itsRent) {
            int e = entries;
            if (e >= ENTRIES) return;
            rent[e] = itsRent;
            meaningsOf[e] = 0;
            for (int k = 0; k < MEANINGS_EACH; k++) meaning[e * MEANINGS_EACH + k] = 0;
            rhymesWith[e] = 0;
            leftIn[e] = 0;
            entries++;
        }

        void addMeaning(int e, int bits) {
            if (!isEntry(e) || meaningsOf[e] >= MEANINGS_EACH) return;
            meaning[e * MEANINGS_EACH + meaningsOf[e]] = bits;
            meaningsOf[e]++;
            meanings++;
        }

        void addRhyme(int e, int other) {
            if (!isEntry(e) || !isEntry(other)) return;
            rhymesWith[e] |= 1 << other;
            rhymesWith[other] |= 1 << e;
            rhymes++;
        }

        void addSpeaker(int itsKind) {
            if (speakers >= SPEAKERS) return;
            kind[speakers] = itsKind;
            speakers++;
        }

        void addSaying(int p, int e, int often) {
            if (sayings >= SAYINGS) return;
            sayer[sayings] = p;
            sayingOf[sayings] = e;
            times[sayings] = often;
            unsureOf[sayings] = NONE;
            sayings++;
        }

        void addUnsure(int s, int often) {
            if (!isSaying(s) || unsures >= UNSURES) return;
            unsureOf[s] = unsures;
            otherTimes[unsures] = often;
            unsures++;
        }

        void addLeaver(int e, int year) {
            if (!isEntry(e)) return;
            leftIn[e] = year;
            leavers |= 1 << e;
        }

        boolean isEntry(int e) {
            return e >= 0 && e < entries;
        }

        boolean isMeaning(int e, int k) {
            return isEntry(e) && k >= 0 && k < meaningsOf[e];
        }

        boolean isSpeaker(int p) {
            return p >= 0 && p < speakers;
        }

        boolean isSaying(int s) {
            return s >= 0 && s < sayings;
        }

        int findSaying(int p, int e) {
            for (int s = 0; s < sayings; s++) {
                if (sayer[s] == p && sayingOf[s] == e) return s;
            }
            return NONE;
        }

        int saidBy(int p) {
            int bits = 0;
            for (int s = 0; s < sayings; s++) {
                if (sayer[s] == p) bits |= 1 << sayingOf[s];
            }
            return bits;
        }

        int timesIn(int s, int year, int others) {
            if (!isSaying(s) || !isSpeaker(sayer[s])) return 0;
            int often = times[s];
            int u = unsureOf[s];
            if (u >= 0 && u < unsures && has(others, u)) often = otherTimes[u];
            switch (kind[sayer[s]]) {
                case CHILD: return Math.max(0, often - (year - 1));
                case SAILOR: return (year & 1) == 0 ? 2 * often : 0;
                default: return often;
            }
        }

        int leaversIn(int year) {
            int bits = 0;
            for (int e = 0; e < entries; e++) {
                if (leftIn[e] == year) bits |= 1 << e;
            }
            return bits;
        }

        boolean isExplained(int e, int by) {
            if (meaningsOf[e] == 0) return true;
            for (int k = 0; k < meaningsOf[e]; k++) {
                if ((meaning[e * MEANINGS_EACH + k] & ~by) == 0) return true;
            }
            return false;
        }

        private int explainedAmong(int some, int by) {
            int bits = 0;
            for (int e = 0; e < entries; e++) {
                if (has(some, e) && isExplained(e, by)) bits |= 1 << e;
            }
            return bits;
        }

        /** Those of some that stay when whoever has lost all its MEANINGS goes, over and over. */
        int supported(int some) {
            int left = some;
            for (int round = 0; round < ENTRIES; round++) {
                int next = explainedAmong(left, left);
                if (next == left) return left;
                left = next;
            }
            return left;
        }

        int grounded(int in, int shown) {
            int ground = shown & in;
            for (int round = 0; round < ENTRIES; round++) {
                int next = ground | explainedAmong(in & ~ground, ground);
                if (next == ground) return ground;
                ground = next;
            }
            return ground;
        }

        // Each round grounds just those one deeper than the round ahead of it.
        int depthOf(int e, int in) {
            int ground = 0;
            for (int deep = 0; deep < ENTRIES; deep++) {
                ground |= explainedAmong(in & ~ground, ground);
                if (has(ground, e)) return deep;
            }
            return NEVER;
        }

        int explainedBy(int e) {
            int bits = 0;
            for (int other = 0; other < entries; other++) {
                if (has(allMeanings(other), e)) bits |= 1 << other;
            }
            return bits;
        }

        private int allMeanings(int e) {
            int bits = 0;
            for (int k = 0; k < meaningsOf[e]; k++) bits |= meaning[e * MEANINGS_EACH + k];
            return bits;
        }

        int rootsOf(int e) {
            int found = allMeanings(e);
            for (int round = 0; round < ENTRIES; round++) {
                int next = found;
                for (int by = 0; by < entries; by++) {
                    if (has(found, by)) next |= allMeanings(by);
                }
                if (next == found) return found;
                found = next;
            }
            return found;
        }

        // Without a MEANING the first row is 0, and counts as the empty one.
        int distance(int e, int other) {
            int least = ENTRIES;
            for (int k = 0; k == 0 || k < meaningsOf[e]; k++) {
                for (int l = 0; l == 0 || l < meaningsOf[other]; l++) {
                    int change = meaning[e * MEANINGS_EACH + k] ^ meaning[other * MEANINGS_EACH + l];
                    least = Math.min(least, Integer.bitCount(change));
                }
            }
            return least;
        }

        private int withRhymes(int some) {
            int bits = some;
            for (int e = 0; e < entries; e++) {
                if (has(some, e)) bits |= rhymesWith[e];
            }
            return bits;
        }

        int rhymesBetween(int e, int other) {
            int reached = 1 << e;
            for (int steps = 0; steps < ENTRIES; steps++) {
                if (has(reached, other)) return steps;
                reached = withRhymes(reached);
            }
            return NEVER;
        }

        int familyOf(int e) {
            int reached = 1 << e;
            for (int steps = 0; steps < ENTRIES; steps++) reached = withRhymes(reached);
            return reached;
        }

        /** How likely just these speakers say nothing, as a part of certainty(). */
        long likelihood(int silent) {
            long product = 1;
            for (int p = 0; p < speakers; p++) {
                product *= has(silent, p) ? mood : HUNDRED - mood;
            }
            return product;
        }

        long certainty() {
            long product = 1;
            for (int p = 0; p < speakers; p++) product *= HUNDRED;
            return product;
        }
    }

    /** All that ACTS and years change. */
    private static final class State {
        int in;
        int gone;
        int seed;
        final int[] behind = new int[ENTRIES];
        final int[] said = new int[ENTRIES];

        void begin(int entries) {
            in = (1 << entries) - 1;
            gone = 0;
            seed = 0;
            for (int e = 0; e < ENTRIES; e++) {
                behind[e] = 0;
                said[e] = 0;
            }
        }

        void copyFrom(State other) {
            in = other.in;
            gone = other.gone;
            seed = other.seed;
            System.arraycopy(other.behind, 0, behind, 0, ENTRIES);
            System.arraycopy(other.said, 0, said, 0, ENTRIES);
        }

        /** Puts out all but some, and answers those put out. */
        int keepOnly(int some) {
            int out = in & ~some;
            in &= some;
            for (int e = 0; e < ENTRIES; e++) {
                if (has(out, e)) behind[e] = 0;
            }
            return out;
        }
    }

    /** Counts what is used in a year, and lets years pass. */
    private static final class Years {
        private final int[] used = new int[ENTRIES];

        void count(Told told, State state, int year, int silent, int others) {
            for (int e = 0; e < ENTRIES; e++) used[e] = state.said[e];
            for (int s = 0; s < told.sayings; s++) {
                int e = told.sayingOf[s];
                if (!told.isEntry(e) || has(silent, told.sayer[s])) continue;
                used[e] += told.timesIn(s, year, others);
            }
        }

        // This and what follows tell of the year counted last.
        int used(int e) {
            return used[e];
        }

        boolean canPay(Told told, int in, int e) {
            int lack = told.rent[e] - used[e];
            if (lack <= 0) return true;
            int helpers = told.rhymesWith[e] & in;
            for (int h = 0; h < told.entries; h++) {
                if (has(helpers, h) && used[h] - told.rent[h] >= lack) return true;
            }
            return false;
        }

        int unpaidAmong(Told told, int in) {
            int bits = 0;
            for (int e = 0; e < told.entries; e++) {
                if (has(in, e) && !canPay(told, in, e)) bits |= 1 << e;
            }
            return bits;
        }

        int pass(Told told, State state, int silent, int others) {
            state.gone++;
            count(told, state, state.gone, silent, others);
            int unpaid = unpaidAmong(told, state.in);
            int staying = state.in;
            for (int e = 0; e < told.entries; e++) {
                if (!has(state.in, e)) continue;
                state.behind[e] = has(unpaid, e) ? state.behind[e] + 1 : 0;
                if (state.behind[e] > told.grace) staying &= ~(1 << e);
            }
            // Nobody can lose a MEANING while nobody goes.
            if (staying == state.in) return 0;
            return state.keepOnly(told.supported(staying));
        }

        int passMoody(Told told, State state) {
            int silent = 0;
            for (int p = 0; p < told.speakers; p++) {
                state.seed = (75 * state.seed + 74) % SEED_MODULUS;
                if (state.seed % HUNDRED < told.mood) silent |= 1 << p;
            }
            return pass(told, state, silent, 0);
        }
    }

    /** What UNDO and IMAGES go back to. */
    private static final class Past {
        private final State[] acts = new State[UNDOS];
        private int first;
        private int count;
        private final State[] images = new State[IMAGES];
        private int imaged;

        Past() {
            for (int k = 0; k < UNDOS; k++) acts[k] = new State();
            for (int k = 0; k < IMAGES; k++) images[k] = new State();
        }

        void clear() {
            count = 0;
            imaged = 0;
        }

        // The rows go round: with all in use, the oldest makes room.
        void remember(State now) {
            acts[(first + count) % UNDOS].copyFrom(now);
            if (count < UNDOS) {
                count++;
            } else {
                first = (first + 1) % UNDOS;
            }
        }

        boolean takeBack(State now) {
            if (count == 0) return false;
            count--;
            now.copyFrom(acts[(first + count) % UNDOS]);
            return true;
        }

        int keepImage(State now) {
            if (imaged >= IMAGES) return NONE;
            images[imaged].copyFrom(now);
            imaged++;
            return imaged - 1;
        }

        boolean returnTo(int image, State now) {
            if (image < 0 || image >= imaged) return false;
            now.copyFrom(images[image]);
            count = 0;
            return true;
        }

        int undoable() {
            return count;
        }

        int images() {
            return imaged;
        }
    }

    /** THE TAPE, and the reading of a HOUSE from it. */
    private static final class Reader {
        private static final int END = 0;
        private static final int WORD = 1;
        private static final int WHOLE = 2;
        private static final int SEMICOLON = 3;
        private static final int COMMA = 4;
        private static final int NO_TOKEN = 5;

        private static final int HOUSE_LINE = 0;
        private static final int ENTRY_LINE = 1;
        private static final int MEANS_LINE = 2;
        private static final int RHYMES_LINE = 3;
        private static final int SPEAKER_LINE = 4;
        private static final int SAYS_LINE = 5;
        private static final int UNSURE_LINE = 6;
        private static final int LEFT_LINE = 7;

        private static final int FORM = 1;
        private static final int UNTOLD = 2;
        private static final int AGAIN = 3;
        private static final int BOUNDS = 4;
        private static final int MANY = 5;
        private static final int LACKS = 6;
        private static final int UNSAID = 7;

        // The letters of a word, a byte each.
        private static final long HOUSE_WORD = 0x686f757365L;
        private static final long ENTRY_WORD = 0x656e747279L;
        private static final long MEANS_WORD = 0x6d65616e73L;
        private static final long RHYMES_WORD = 0x7268796d6573L;
        private static final long SPEAKER_WORD = 0x737065616b6572L;
        private static final long SAYS_WORD = 0x73617973L;
        private static final long UNSURE_WORD = 0x756e73757265L;
        private static final long LEFT_WORD = 0x6c656674L;
        private static final long GRACE_WORD = 0x6772616365L;
        private static final long MOOD_WORD = 0x6d6f6f64L;
        private static final long RENT_WORD = 0x72656e74L;
        private static final long TIMES_WORD = 0x74696d6573L;
        private static final long YEAR_WORD = 0x79656172L;
        private static final long PEDANT_WORD = 0x706564616e74L;
        private static final long CHILD_WORD = 0x6368696c64L;
        private static final long SAILOR_WORD = 0x7361696c6f72L;

        private static final int LONGEST_WORD = 8;
        private static final int LONGEST_WHOLE = 3;

        private final byte[] tape = new byte[TAPE];
        private int fed;
        private int length;
        private int next;
        private int token;
        private int at;
        private long word;
        private int whole;
        private final long[] entryNames = new long[ENTRIES];
        private final long[] speakerNames = new long[SPEAKERS];
        private Told told;
        private boolean housed;
        private int fault;
        private int place;

        Reader(Told into) {
            told = into;
        }

        boolean hasRoom(int bytes) {
            return fed + bytes <= TAPE;
        }

        void put(int number) {
            if (!hasRoom(4)) return;
            tape[fed] = (byte) (number >> 24);
            tape[fed + 1] = (byte) (number >> 16);
            tape[fed + 2] = (byte) (number >> 8);
            tape[fed + 3] = (byte) number;
            fed += 4;
        }

        int fed() {
            return fed;
        }

        int faultMet() {
            return fault;
        }

        int faultPlace() {
            return place;
        }

        boolean read(int n, Told into) {
            length = Math.max(0, Math.min(n, fed));
            fed = 0;
            next = 0;
            told = into;
            told.clear();
            housed = false;
            fault = 0;
            place = 0;
            step();
            for (int k = 0; k <= TAPE; k++) {
                if (!readLine()) return false;
                if (token == END) return told.entries > 0 || fail(LACKS);
                if (token != SEMICOLON) return fail(FORM);
                step();
            }
            return false;
        }

        private boolean readLine() {
            int sort = lineSort();
            if (sort == NONE) return fail(FORM);
            if (sort == HOUSE_LINE && housed) return fail(AGAIN);
            if (sort != HOUSE_LINE && !housed) return fail(LACKS);
            if (isFull(sort)) return fail(MANY);
            step();
            switch (sort) {
                case HOUSE_LINE: return readHouse();
                case ENTRY_LINE: return readEntry();
                case MEANS_LINE: return readMeans();
                case RHYMES_LINE: return readRhymes();
                case SPEAKER_LINE: return readSpeaker();
                case SAYS_LINE: return readSays();
                case UNSURE_LINE: return readUnsure();
                default: return readLeft();
            }
        }

        private int lineSort() {
            if (token != WORD) return NONE;
            if (word == HOUSE_WORD) return HOUSE_LINE;
            if (word == ENTRY_WORD) return ENTRY_LINE;
            if (word == MEANS_WORD) return MEANS_LINE;
            if (word == RHYMES_WORD) return RHYMES_LINE;
            if (word == SPEAKER_WORD) return SPEAKER_LINE;
            if (word == SAYS_WORD) return SAYS_LINE;
            if (word == UNSURE_WORD) return UNSURE_LINE;
            if (word == LEFT_WORD) return LEFT_LINE;
            return NONE;
        }

        private boolean isFull(int sort) {
            switch (sort) {
                case ENTRY_LINE: return told.entries >= ENTRIES;
                case MEANS_LINE: return told.meanings >= MEANINGS;
                case RHYMES_LINE: return told.rhymes >= RHYMES;
                case SPEAKER_LINE: return told.speakers >= SPEAKERS;
                case SAYS_LINE: return told.sayings >= SAYINGS;
                case UNSURE_LINE: return told.unsures >= UNSURES;
                default: return false;
            }
        }

        private boolean readHouse() {
            if (!passWord(GRACE_WORD) || !isWhole(0, MOST_GRACE)) return false;
            told.grace = whole;
            step();
            if (!passWord(MOOD_WORD) || !isWhole(0, HUNDRED)) return false;
            told.mood = whole;
            step();
            housed = true;
            return true;
        }

        private boolean readEntry() {
            if (!isNewName()) return false;
            long name = word;
            step();
            if (!passWord(RENT_WORD) || !isWhole(0, MOST_RENT)) return false;
            if (told.entries < ENTRIES) entryNames[told.entries] = name;
            told.addEntry(whole);
            step();
            return true;
        }

        private boolean readMeans() {
            int e = entryHere();
            if (e == NONE) return false;
            if (told.meaningsOf[e] >= MEANINGS_EACH) return fail(MANY);
            step();
            int bits = 0;
            for (int k = 0; k < ENTRIES; k++) {
                int by = entryHere();
                if (by == NONE) return false;
                if (by == e || has(bits, by)) return fail(AGAIN);
                bits |= 1 << by;
                step();
                if (token != COMMA) break;
                step();
            }
            told.addMeaning(e, bits);
            return true;
        }

        private boolean readRhymes() {
            int e = entryHere();
            if (e == NONE) return false;
            step();
            int other = entryHere();
            if (other == NONE) return false;
            if (other == e || has(told.rhymesWith[e], other)) return fail(AGAIN);
            told.addRhyme(e, other);
            step();
            return true;
        }

        private boolean readSpeaker() {
            if (!isNewName()) return false;
            long name = word;
            step();
            int kind = kindHere();
            if (kind == NONE) return fail(FORM);
            if (told.speakers < SPEAKERS) speakerNames[told.speakers] = name;
            told.addSpeaker(kind);
            step();
            return true;
        }

        private int kindHere() {
            if (isWord(PEDANT_WORD)) return PEDANT;
            if (isWord(CHILD_WORD)) return CHILD;
            if (isWord(SAILOR_WORD)) return SAILOR;
            return NONE;
        }

        private boolean readSays() {
            int p = speakerHere();
            if (p == NONE) return false;
            step();
            int e = entryHere();
            if (e == NONE) return false;
            if (told.findSaying(p, e) != NONE) return fail(AGAIN);
            step();
            if (!passWord(TIMES_WORD) || !isWhole(1, MOST_TIMES)) return false;
            told.addSaying(p, e, whole);
            step();
            return true;
        }

        private boolean readUnsure() {
            int p = speakerHere();
            if (p == NONE) return false;
            step();
            int e = entryHere();
            if (e == NONE) return false;
            int s = told.findSaying(p, e);
            if (s == NONE) return fail(UNSAID);
            if (told.unsureOf[s] != NONE) return fail(AGAIN);
            step();
            if (!isWhole(0, MOST_TIMES)) return false;
            told.addUnsure(s, whole);
            step();
            return true;
        }

        private boolean readLeft() {
            int e = entryHere();
            if (e == NONE) return false;
            if (has(told.leavers, e)) return fail(AGAIN);
            step();
            if (!passWord(YEAR_WORD) || !isWhole(1, LAST_LEFT)) return false;
            told.addLeaver(e, whole);
            step();
            return true;
        }

        // What follows looks at the TOKEN that stands now; a FAULT is at it.

        private boolean fail(int number) {
            fault = number;
            place = at;
            return false;
        }

        private boolean isWord(long letters) {
            return token == WORD && word == letters;
        }

        private boolean passWord(long letters) {
            if (!isWord(letters)) return fail(FORM);
            step();
            return true;
        }

        private boolean isWhole(int least, int most) {
            if (token != WHOLE) return fail(FORM);
            return whole >= least && whole <= most || fail(BOUNDS);
        }

        private boolean isName() {
            return token == WORD && lineSort() == NONE;
        }

        private boolean isNewName() {
            if (!isName()) return fail(FORM);
            return findEntry() == NONE && findSpeaker() == NONE || fail(AGAIN);
        }

        private int entryHere() {
            if (!isName()) {
                fail(FORM);
                return NONE;
            }
            int e = findEntry();
            if (e == NONE) fail(UNTOLD);
            return e;
        }

        private int speakerHere() {
            if (!isName()) {
                fail(FORM);
                return NONE;
            }
            int p = findSpeaker();
            if (p == NONE) fail(UNTOLD);
            return p;
        }

        private int findEntry() {
            for (int e = 0; e < told.entries; e++) {
                if (entryNames[e] == word) return e;
            }
            return NONE;
        }

        private int findSpeaker() {
            for (int p = 0; p < told.speakers; p++) {
                if (speakerNames[p] == word) return p;
            }
            return NONE;
        }

        private void step() {
            int start = next;
            while (start < length && tape[start] == ' ') start++;
            at = start;
            next = start;
            if (start >= length) {
                token = END;
            } else if (tape[start] >= 'a' && tape[start] <= 'z') {
                readWord();
            } else if (tape[start] >= '0' && tape[start] <= '9') {
                readWhole();
            } else {
                readMark();
            }
        }

        private void readMark() {
            token = NO_TOKEN;
            if (tape[at] == ';') token = SEMICOLON;
            if (tape[at] == ',') token = COMMA;
            next = at + 1;
        }

        // Eight letters, a byte each, fill a long: two NAMES are one if their numbers are.
        private void readWord() {
            word = 0;
            while (next < length && tape[next] >= 'a' && tape[next] <= 'z') {
                word = word << 8 | tape[next];
                next++;
            }
            token = next - at <= LONGEST_WORD ? WORD : NO_TOKEN;
        }

        private void readWhole() {
            whole = 0;
            while (next < length && tape[next] >= '0' && tape[next] <= '9') {
                whole = 10 * whole + tape[next] - '0';
                next++;
            }
            token = next - at <= LONGEST_WHOLE ? WHOLE : NO_TOKEN;
        }
    }
}
