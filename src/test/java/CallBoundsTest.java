import java.util.ArrayList;
import java.util.List;

/**
 * The bounds of each call's numbers, and its refusals (promises 1, 6 to 57, and IV of the document's terms): the last
 * number that is allowed and the first that isn't, on both sides; what a refused call answers, what trouble() tells
 * behind it, and that all is as before; which refusal goes ahead of which.
 */
public final class CallBoundsTest {
    private static final Check C = new Check();
    private static final Pair PAIR = new Pair(C);
    private static final int LEAST = Integer.MIN_VALUE;
    private static final int MOST = Integer.MAX_VALUE;

    /** b rests on a and c, c on b or d; a and d rhyme. */
    private static final String FOUR = "house grace 1 mood 50;entry a rent 5;entry b rent 10;entry c rent 4;entry d rent 0;"
        + "means b a,c;means c b;means c d;rhymes a d;speaker p pedant;speaker q sailor;says p a times 8;says q b times 12;"
        + "says p d times 3;unsure p a 2;unsure q b 5;left b year 2";

    private static final String EIGHT = "house grace 1 mood 50;entry a rent 1;entry b rent 1;entry c rent 1;entry d rent 1;"
        + "entry e rent 1;entry f rent 1;entry g rent 1;entry h rent 1;means h g;means h f;speaker p child;"
        + "speaker q child;speaker r child;speaker s child;says s h times 3";

    private static final String ONE = "house grace 0 mood 0;entry a rent 1";

    /** A call with an entry's number, or with a speaker's. */
    private interface Numbered {
        long of(WordHouse x, int number);
    }

    private static final Numbered[] OF_ENTRIES = {
        (x, e) -> x.entry(e, 0), (x, e) -> x.meaning(e, 0), (x, e) -> x.saysIn(0, e, 1), (x, e) -> x.uses(e, 1),
        (x, e) -> x.pays(e, 1), (x, e) -> x.outIn(e), (x, e) -> x.goWith(e), (x, e) -> x.keep(e), (x, e) -> x.depth(e),
        (x, e) -> x.roots(e), (x, e) -> x.circular(e), (x, e) -> x.apart(e, 0), (x, e) -> x.apart(0, e),
        (x, e) -> x.chime(e, 0), (x, e) -> x.chime(0, e), (x, e) -> x.odds(e, false), (x, e) -> x.odds(e, true),
        (x, e) -> x.mean(e, false), (x, e) -> x.mean(e, true), (x, e) -> x.stays(e, false), (x, e) -> x.stays(e, true),
        (x, e) -> x.say(e, 1), (x, e) -> x.evict(e)};

    private static final String[] OF_ENTRIES_NAMES = {
        "entry", "meaning", "saysIn", "uses", "pays", "outIn", "goWith", "keep", "depth", "roots", "circular", "apart of",
        "apart from", "chime of", "chime with", "odds upper", "odds lower", "mean upper", "mean lower", "stays upper",
        "stays lower", "say", "evict"};

    private static final Pair.Call[] OF_THE_HOUSE = {
        x -> x.lodgers(), x -> x.debtors(), x -> x.after(0), x -> x.emptyIn(), x -> x.pillar(), x -> x.dearest(),
        x -> x.rings(), x -> x.point(), x -> x.fell(), x -> x.twins(), x -> x.families(), x -> x.fits(), x -> x.fitAt(0),
        x -> x.could(), x -> x.surely(), x -> x.ask(), x -> x.askLeaves(), x -> x.judge(), x -> x.rests(0),
        x -> x.rest(0), x -> x.moody(0, 0), x -> x.firstOut(0, 0), x -> x.year(), x -> x.moodyYear(), x -> x.image()};

    private static final String[] OF_THE_HOUSE_NAMES = {
        "lodgers", "debtors", "after", "emptyIn", "pillar", "dearest", "rings", "point", "fell", "twins", "families",
        "fits", "fitAt", "could", "surely", "ask", "askLeaves", "judge", "rests", "rest", "moody", "firstOut", "year",
        "moodyYear", "image"};

    public static void main(String[] args) {
        noHouse();
        entryNumbers();
        speakerNumbers();
        whats();
        meaningNumbers();
        years();
        yearsAhead();
        seeds();
        inks();
        fitNumbers();
        outOnes();
        saying();
        evicting();
        taking();
        ninetyNineYears();
        undoing();
        images();
        led();
        sizes();
        noneSuchIsNoRefusal();
        troubleOfTheLatest();
        lookingChangesNothing();
        looksLeaveNothingBehind();
        C.end();
    }

    private static void newOne(WordHouse x) {
    }

    /** Nothing is a HOUSE that had a FAULT. */
    private static void faultyOne(WordHouse x) {
        Check.house(x, "house grace 0 mood 0;entry a rent 1;entry b rent 61");
    }

    private static void four(WordHouse x) {
        Check.house(x, FOUR);
    }

    /** Behind some acts: b and a are out, c and d in, c SAID. */
    private static void lived(WordHouse x) {
        Check.house(x, FOUR);
        x.seed(4321);
        x.year();
        x.image();
        x.say(2, 6);
        x.moodyYear();
        x.image();
        x.evict(0);
        x.say(1, 3);
    }

    private static void eight(WordHouse x) {
        Check.house(x, EIGHT);
    }

    private static void one(WordHouse x) {
        Check.house(x, ONE);
    }

    private static long bit(boolean b) {
        return b ? 1 : 0;
    }

    private static void refused(WordHouse x, String what, long got, int trouble) {
        C.due(what + " is refused", got, -1);
        C.due(what + " tells trouble", x.trouble(), trouble);
    }

    private static void granted(WordHouse x, String what, long got, long want) {
        C.due(what, got, want);
        C.due(what + " tells no trouble", x.trouble(), 0);
    }

    /** Promise 1, and 1 (no HOUSE) of all others; it goes ahead of a wrong number. */
    private static void noHouse() {
        Pair.Way[] ways = {CallBoundsTest::newOne, CallBoundsTest::faultyOne};
        for (Pair.Way way : ways) {
            for (int k = 0; k < OF_THE_HOUSE.length; k++) {
                PAIR.refuses(OF_THE_HOUSE_NAMES[k] + " without a house", way, OF_THE_HOUSE[k], -1, 1);
            }
            for (int k = 0; k < OF_ENTRIES.length; k++) {
                Numbered call = OF_ENTRIES[k];
                PAIR.refuses(OF_ENTRIES_NAMES[k] + " without a house", way, x -> call.of(x, 0), -1, 1);
            }
            PAIR.refuses("speaker without a house", way, x -> x.speaker(0, 0), -1, 1);
            PAIR.refuses("mends without a house", way, x -> x.mends(0, false, false, false), -100, 1);
            PAIR.denies("take without a house", way, x -> bit(x.take(0)), 1);
            PAIR.denies("seed without a house", way, x -> bit(x.seed(0)), 1);
            PAIR.denies("undo without a house", way, x -> bit(x.undo()), 6);
            PAIR.denies("back without a house", way, x -> bit(x.back(0)), 1);
            PAIR.refuses("after(61) without a house", way, x -> x.after(61), -1, 1);
            PAIR.refuses("mends(10) without a house", way, x -> x.mends(10, true, true, true), -100, 1);
            PAIR.refuses("rests(10) without a house", way, x -> x.rests(10), -1, 1);
            PAIR.refuses("rest(-1) without a house", way, x -> x.rest(-1), -1, 1);
            PAIR.refuses("moody(-1, 61) without a house", way, x -> x.moody(-1, 61), -1, 1);
            PAIR.refuses("firstOut(-1, 61) without a house", way, x -> x.firstOut(-1, 61), -1, 1);
            PAIR.refuses("say(0, 21) without a house", way, x -> x.say(0, 21), -1, 1);
            PAIR.refuses("uses(0, 0) without a house", way, x -> x.uses(0, 0), -1, 1);
            PAIR.refuses("pays(0, 100) without a house", way, x -> x.pays(0, 100), -1, 1);
            PAIR.denies("seed(65537) without a house", way, x -> bit(x.seed(65537)), 1);
        }
        for (int k = 0; k < OF_THE_HOUSE.length; k++) {
            WordHouse x = new WordHouse();
            x.lodgers();
            one(x);
            C.due(OF_THE_HOUSE_NAMES[k] + " with a house", OF_THE_HOUSE[k].of(x) != -1, true);
            C.due(OF_THE_HOUSE_NAMES[k] + " with a house tells no trouble", x.trouble(), 0);
        }
        WordHouse x = new WordHouse();
        for (int what = 0; what <= 13; what++) C.due("size " + what + " without a house", x.size(what), 0);
        C.due("led without a house", Picture.led(x, 0), Picture.NO_SUCH);
        C.due("fault of a new object", x.fault(), 0);
        C.due("where of a new object", x.where(), -1);
        C.due("trouble of a new object", x.trouble(), 0);
    }

    /** 1: there is no such entry. */
    private static void entryNumbers() {
        for (int k = 0; k < OF_ENTRIES.length; k++) {
            Numbered call = OF_ENTRIES[k];
            for (int e : new int[] {-1, 4, 8, LEAST, MOST}) {
                PAIR.refuses(OF_ENTRIES_NAMES[k] + " of " + e + " of four", CallBoundsTest::lived, x -> call.of(x, e), -1, 1);
            }
            for (int e : new int[] {-1, 1, 31, 32, LEAST, MOST}) {
                String what = OF_ENTRIES_NAMES[k] + " of " + e + " of one";
                WordHouse x = new WordHouse();
                Check.house(x, ONE + ";speaker p child");
                refused(x, what, call.of(x, e), 1);
            }
            for (int e : new int[] {8, -1, -8}) {
                WordHouse x = new WordHouse();
                eight(x);
                refused(x, OF_ENTRIES_NAMES[k] + " of " + e + " of eight", call.of(x, e), 1);
            }
            if (OF_ENTRIES_NAMES[k].equals("meaning")) continue;
            for (int e = 0; e < 8; e += 7) {
                WordHouse x = new WordHouse();
                eight(x);
                C.due(OF_ENTRIES_NAMES[k] + " of " + e + " of eight", call.of(x, e) != -1, true);
                C.due(OF_ENTRIES_NAMES[k] + " of " + e + " of eight tells no trouble", x.trouble(), 0);
            }
        }
        for (int e : new int[] {-1, 4, LEAST, MOST}) {
            PAIR.denies("take of " + e + " of four", CallBoundsTest::lived, x -> bit(x.take(e)), 1);
            PAIR.refuses("apart of " + e + " from itself", CallBoundsTest::lived, x -> x.apart(e, e), -1, 1);
            PAIR.refuses("chime of " + e + " with itself", CallBoundsTest::lived, x -> x.chime(e, e), -1, 1);
        }
        // 1 goes ahead of the other numbers.
        PAIR.refuses("saysIn(0, 4, 0)", CallBoundsTest::lived, x -> x.saysIn(0, 4, 0), -1, 1);
        PAIR.refuses("uses(4, 100)", CallBoundsTest::lived, x -> x.uses(4, 100), -1, 1);
        PAIR.refuses("pays(-1, 0)", CallBoundsTest::lived, x -> x.pays(-1, 0), -1, 1);
        PAIR.refuses("say(4, 0)", CallBoundsTest::lived, x -> x.say(4, 0), -1, 1);
        PAIR.refuses("say(-1, 21)", CallBoundsTest::lived, x -> x.say(-1, 21), -1, 1);
    }

    /** 1: there is no such speaker. */
    private static void speakerNumbers() {
        for (int p : new int[] {-1, 2, 4, LEAST, MOST}) {
            PAIR.refuses("speaker(" + p + ", 0)", CallBoundsTest::lived, x -> x.speaker(p, 0), -1, 1);
            PAIR.refuses("speaker(" + p + ", 1)", CallBoundsTest::lived, x -> x.speaker(p, 1), -1, 1);
            PAIR.refuses("saysIn(" + p + ", 0, 1)", CallBoundsTest::lived, x -> x.saysIn(p, 0, 1), -1, 1);
            PAIR.refuses("saysIn(" + p + ", 0, 100)", CallBoundsTest::lived, x -> x.saysIn(p, 0, 100), -1, 1);
        }
        PAIR.looks("speaker(0, 0)", CallBoundsTest::lived, x -> x.speaker(0, 0), 0);
        PAIR.looks("speaker(1, 0)", CallBoundsTest::lived, x -> x.speaker(1, 0), 2);
        PAIR.looks("speaker(1, 1)", CallBoundsTest::lived, x -> x.speaker(1, 1), 2);
        WordHouse x = new WordHouse();
        eight(x);
        granted(x, "speaker(3, 1) of four speakers", x.speaker(3, 1), 128);
        granted(x, "speaker(2, 1) who says none", x.speaker(2, 1), 0);
        granted(x, "saysIn(3, 7, 1)", x.saysIn(3, 7, 1), 3);
        refused(x, "speaker(4, 0) of four speakers", x.speaker(4, 0), 1);
        refused(x, "saysIn(4, 0, 1) of four speakers", x.saysIn(4, 0, 1), 1);
        x = new WordHouse();
        one(x);
        refused(x, "speaker(0, 0) of none", x.speaker(0, 0), 1);
        refused(x, "saysIn(0, 0, 1) of none", x.saysIn(0, 0, 1), 1);
    }

    /** 1: there is no such thing to tell of it. */
    private static void whats() {
        for (int what : new int[] {-1, 7, LEAST, MOST}) {
            PAIR.refuses("entry(0, " + what + ")", CallBoundsTest::lived, x -> x.entry(0, what), -1, 1);
        }
        for (int what : new int[] {-1, 2, LEAST, MOST}) {
            PAIR.refuses("speaker(0, " + what + ")", CallBoundsTest::lived, x -> x.speaker(0, what), -1, 1);
        }
        int[] ofC = {4, 1, 0, 6, 2, 0, 2};
        for (int what = 0; what <= 6; what++) {
            int w = what;
            PAIR.looks("entry(2, " + what + ")", CallBoundsTest::lived, x -> x.entry(2, w), ofC[what]);
        }
        PAIR.looks("an out one's years behind", CallBoundsTest::lived, x -> x.entry(0, 2), 0);
        PAIR.looks("an out one is out", CallBoundsTest::lived, x -> x.entry(0, 1), 0);
        PAIR.looks("an out one was said", CallBoundsTest::lived, x -> x.entry(1, 3), 3);
        PAIR.looks("an out one explains still", CallBoundsTest::lived, x -> x.entry(0, 6), 2);
    }

    /** Promise 7: k from 0 on, as many as there are. */
    private static void meaningNumbers() {
        PAIR.looks("meaning(2, 0)", CallBoundsTest::lived, x -> x.meaning(2, 0), 2);
        PAIR.looks("meaning(2, 1)", CallBoundsTest::lived, x -> x.meaning(2, 1), 8);
        PAIR.looks("meaning(1, 0)", CallBoundsTest::lived, x -> x.meaning(1, 0), 5);
        int[][] none = {{2, 2}, {2, -1}, {1, 1}, {0, 0}, {3, 0}, {3, 1}, {0, -1}, {2, LEAST}, {2, MOST}};
        for (int[] n : none) {
            PAIR.refuses("meaning(" + n[0] + ", " + n[1] + ")", CallBoundsTest::lived, x -> x.meaning(n[0], n[1]), -1, 1);
        }
        WordHouse x = new WordHouse();
        eight(x);
        granted(x, "meaning(7, 1) of eight", x.meaning(7, 1), 32);
        refused(x, "meaning(7, 2) of eight", x.meaning(7, 2), 1);
        refused(x, "meaning(6, 2) is none of the next one's", x.meaning(6, 2), 1);
    }

    /** Years 1 .. 99. */
    private static void years() {
        for (int year : new int[] {0, 100, -1, LEAST, MOST}) {
            PAIR.refuses("saysIn(0, 0, " + year + ")", CallBoundsTest::lived, x -> x.saysIn(0, 0, year), -1, 2);
            PAIR.refuses("uses(3, " + year + ")", CallBoundsTest::lived, x -> x.uses(3, year), -1, 2);
            PAIR.refuses("pays(3, " + year + ")", CallBoundsTest::lived, x -> x.pays(3, year), -1, 2);
            // 2 goes ahead of 5.
            PAIR.refuses("pays of an out one, " + year, CallBoundsTest::lived, x -> x.pays(0, year), -1, 2);
        }
        PAIR.looks("saysIn in year 1", CallBoundsTest::lived, x -> x.saysIn(1, 1, 1), 0);
        PAIR.looks("saysIn in year 2", CallBoundsTest::lived, x -> x.saysIn(1, 1, 2), 24);
        PAIR.looks("saysIn in year 98", CallBoundsTest::lived, x -> x.saysIn(1, 1, 98), 24);
        PAIR.looks("saysIn in year 99", CallBoundsTest::lived, x -> x.saysIn(1, 1, 99), 0);
        PAIR.looks("uses in year 1", CallBoundsTest::lived, x -> x.uses(1, 1), 3);
        PAIR.looks("uses in year 98", CallBoundsTest::lived, x -> x.uses(1, 98), 27);
        PAIR.looks("uses in year 99", CallBoundsTest::lived, x -> x.uses(1, 99), 3);
        PAIR.looks("pays in year 1", CallBoundsTest::four, x -> x.pays(1, 1), 0);
        PAIR.looks("pays in year 98", CallBoundsTest::four, x -> x.pays(1, 98), 1);
        PAIR.looks("pays in year 99", CallBoundsTest::four, x -> x.pays(1, 99), 0);
    }

    /** 0 .. 60 years ahead. */
    private static void yearsAhead() {
        for (int n : new int[] {-1, 61, LEAST, MOST}) {
            PAIR.refuses("after(" + n + ")", CallBoundsTest::lived, x -> x.after(n), -1, 2);
            PAIR.refuses("moody(0, " + n + ")", CallBoundsTest::lived, x -> x.moody(0, n), -1, 2);
            PAIR.refuses("firstOut(0, " + n + ")", CallBoundsTest::lived, x -> x.firstOut(0, n), -1, 2);
        }
        PAIR.looks("after(0)", CallBoundsTest::lived, x -> x.after(0), 12);
        PAIR.looks("after(60)", CallBoundsTest::lived, x -> x.after(60), 12);
        PAIR.looks("after(0) of one", CallBoundsTest::one, x -> x.after(0), 1);
        PAIR.looks("after(1) of one", CallBoundsTest::one, x -> x.after(1), 0);
        PAIR.looks("after(60) of one", CallBoundsTest::one, x -> x.after(60), 0);
        PAIR.looks("moody(0, 0)", CallBoundsTest::one, x -> x.moody(0, 0), 1);
        PAIR.looks("moody(0, 1)", CallBoundsTest::one, x -> x.moody(0, 1), 0);
        PAIR.looks("moody(0, 60)", CallBoundsTest::one, x -> x.moody(0, 60), 0);
        PAIR.looks("firstOut(0, 0)", CallBoundsTest::one, x -> x.firstOut(0, 0), -2);
        PAIR.looks("firstOut(0, 1)", CallBoundsTest::one, x -> x.firstOut(0, 1), 1);
        PAIR.looks("firstOut(0, 60)", CallBoundsTest::one, x -> x.firstOut(0, 60), 1);
    }

    /** A SEED: 0 .. 65,536. */
    private static void seeds() {
        for (int v : new int[] {-1, 65537, LEAST, MOST}) {
            PAIR.denies("seed(" + v + ")", CallBoundsTest::lived, x -> bit(x.seed(v)), 2);
            PAIR.refuses("moody(" + v + ", 1)", CallBoundsTest::lived, x -> x.moody(v, 1), -1, 2);
            PAIR.refuses("moody(" + v + ", 0)", CallBoundsTest::lived, x -> x.moody(v, 0), -1, 2);
            PAIR.refuses("firstOut(" + v + ", 1)", CallBoundsTest::lived, x -> x.firstOut(v, 1), -1, 2);
            PAIR.refuses("firstOut(" + v + ", 0)", CallBoundsTest::lived, x -> x.firstOut(v, 0), -1, 2);
        }
        for (int v : new int[] {0, 1, 65535, 65536}) {
            WordHouse x = new WordHouse();
            lived(x);
            int acts = x.size(11);
            C.due("seed(" + v + ")", x.seed(v), true);
            C.due("seed(" + v + ") tells no trouble", x.trouble(), 0);
            C.due("the seed is " + v, x.size(10), v);
            C.due("it is no act", x.size(11), acts);
            PAIR.looks("moody(" + v + ", 0)", CallBoundsTest::lived, y -> y.moody(v, 0), 12);
            PAIR.looks("firstOut(" + v + ", 0)", CallBoundsTest::lived, y -> y.firstOut(v, 0), -2);
        }
    }

    /** Ink: 0 .. 9. */
    private static void inks() {
        for (int ink : new int[] {-1, 10, LEAST, MOST}) {
            for (int k = 0; k < 8; k++) {
                boolean one = (k & 1) == 1;
                boolean other = (k & 2) == 2;
                boolean ofOther = (k & 4) == 4;
                PAIR.refuses("mends by ink " + ink + ", " + k, CallBoundsTest::lived, x -> x.mends(ink, one, other, ofOther), -100, 2);
            }
            PAIR.refuses("rests by ink " + ink, CallBoundsTest::lived, x -> x.rests(ink), -1, 2);
            PAIR.refuses("rest by ink " + ink, CallBoundsTest::lived, x -> x.rest(ink), -1, 2);
        }
        for (int ink = 0; ink <= 9; ink++) {
            int i = ink;
            for (boolean ofOther : new boolean[] {false, true}) {
                String what = " by ink " + ink + (ofOther ? " of the other" : " of the one");
                // 1 less ink, which may be -1 or 0: no refusal.
                PAIR.looks("both mend" + what, CallBoundsTest::lived, x -> x.mends(i, true, true, ofOther), 1 - i);
                PAIR.looks("the one mends" + what, CallBoundsTest::lived, x -> x.mends(i, true, false, ofOther), ofOther ? 0 : 4);
                PAIR.looks("the other mends" + what, CallBoundsTest::lived, x -> x.mends(i, false, true, ofOther), ofOther ? 4 : 0);
                PAIR.looks("none mends" + what, CallBoundsTest::lived, x -> x.mends(i, false, false, ofOther), 2);
            }
            PAIR.looks("rests by ink " + ink, CallBoundsTest::lived, x -> x.rests(i), ink == 0 ? 1 : ink == 1 ? 3 : 2);
            PAIR.looks("rest by ink " + ink, CallBoundsTest::lived, x -> x.rest(i), ink == 0 ? 11 : 1);
        }
    }

    /** Promise 32: i from 0 on, as many as there are. */
    private static void fitNumbers() {
        WordHouse x = new WordHouse();
        Check.house(x, ONE);
        granted(x, "fitAt(0) of one", x.fitAt(0), 0);
        for (int i : new int[] {-1, 1, LEAST, MOST}) refused(x, "fitAt(" + i + ") of one", x.fitAt(i), 1);
        x = new WordHouse();
        Check.house(x, "house grace 0 mood 0;entry a rent 0;entry b rent 0;speaker p child;speaker q child;says p a times 1;"
            + "says p b times 1;says q a times 1;says q b times 1;unsure p a 0;unsure p b 0;unsure q a 0;unsure q b 0");
        granted(x, "all sets fit", x.fits(), 16);
        for (int i = 0; i < 16; i++) granted(x, "fitAt(" + i + ") of sixteen", x.fitAt(i), i);
        for (int i : new int[] {-1, 16, 31, 32, LEAST, MOST}) refused(x, "fitAt(" + i + ") of sixteen", x.fitAt(i), 1);
        granted(x, "could of all", x.could(), 15);
        granted(x, "surely of all", x.surely(), 0);
        granted(x, "ask of all", x.ask(), 0);
        granted(x, "askLeaves of all", x.askLeaves(), 8);
        x = new WordHouse();
        Check.house(x, "house grace 0 mood 0;entry a rent 0;left a year 1");
        granted(x, "no set fits", x.fits(), 0);
        refused(x, "fitAt(0) of none", x.fitAt(0), 1);
        refused(x, "fitAt(-1) of none", x.fitAt(-1), 1);
        PAIR.looks("fitAt(0)", CallBoundsTest::lived, y -> y.fitAt(0), 0);
        PAIR.looks("fitAt(3)", CallBoundsTest::lived, y -> y.fitAt(3), 3);
        for (int i : new int[] {-1, 4, LEAST, MOST}) {
            PAIR.refuses("fitAt(" + i + ")", CallBoundsTest::lived, y -> y.fitAt(i), -1, 1);
        }
    }

    /** 5: not so, it is out; those that tell no 5 answer of out ones, too. */
    private static void outOnes() {
        for (int e = 0; e < 2; e++) {
            int out = e;
            PAIR.refuses("pays of an out one", CallBoundsTest::lived, x -> x.pays(out, 1), -1, 5);
            PAIR.refuses("goWith of an out one", CallBoundsTest::lived, x -> x.goWith(out), -1, 5);
            PAIR.refuses("keep of an out one", CallBoundsTest::lived, x -> x.keep(out), -1, 5);
            PAIR.refuses("odds of an out one, upper", CallBoundsTest::lived, x -> x.odds(out, false), -1, 5);
            PAIR.refuses("odds of an out one, lower", CallBoundsTest::lived, x -> x.odds(out, true), -1, 5);
            PAIR.refuses("evict of an out one", CallBoundsTest::lived, x -> x.evict(out), -1, 5);
            PAIR.looks("outIn of an out one", CallBoundsTest::lived, x -> x.outIn(out), 0);
            PAIR.looks("depth of an out one", CallBoundsTest::lived, x -> x.depth(out), -2);
            PAIR.looks("stays of an out one, upper", CallBoundsTest::lived, x -> x.stays(out, false), 0);
            PAIR.looks("stays of an out one, lower", CallBoundsTest::lived, x -> x.stays(out, true), 1);
        }
        PAIR.looks("uses of an out one", CallBoundsTest::lived, x -> x.uses(0, 1), 8);
        PAIR.looks("mean of an out one, upper", CallBoundsTest::lived, x -> x.mean(0, false), 4);
        PAIR.looks("mean of an out one, lower", CallBoundsTest::lived, x -> x.mean(0, true), 1);
        PAIR.looks("roots of an out one", CallBoundsTest::lived, x -> x.roots(1), 15);
        PAIR.looks("circular of an out one", CallBoundsTest::lived, x -> x.circular(1), 1);
        PAIR.looks("apart of out ones", CallBoundsTest::lived, x -> x.apart(0, 1), 2);
        PAIR.looks("chime of an out one", CallBoundsTest::lived, x -> x.chime(0, 3), 1);
        PAIR.looks("twins with an out one", CallBoundsTest::lived, x -> x.twins(), 3);
        PAIR.looks("families with out ones", CallBoundsTest::lived, x -> x.families(), 3);
    }

    /** Promise 48: SAY 1 .. 20, and not above 99. */
    private static void saying() {
        for (int n : new int[] {0, 21, -1, LEAST, MOST}) {
            PAIR.refuses("say(2, " + n + ")", CallBoundsTest::lived, x -> x.say(2, n), -1, 2);
            PAIR.refuses("say of an out one, " + n, CallBoundsTest::lived, x -> x.say(0, n), -1, 2);
            // 2 goes ahead of 3.
            PAIR.refuses("say(0, " + n + ") above 99", CallBoundsTest::saidOften, x -> x.say(0, n), -1, 2);
        }
        PAIR.grants("say(2, 1)", CallBoundsTest::lived, x -> x.say(2, 1), 7);
        PAIR.grants("say(2, 20)", CallBoundsTest::lived, x -> x.say(2, 20), 26);
        PAIR.grants("say of an out one", CallBoundsTest::lived, x -> x.say(0, 20), 20);
        PAIR.grants("said 80 times and 19", CallBoundsTest::said80, x -> x.say(0, 19), 99);
        PAIR.refuses("said 80 times and 20", CallBoundsTest::said80, x -> x.say(0, 20), -1, 3);
        PAIR.refuses("said 99 times and 1", CallBoundsTest::saidOften, x -> x.say(0, 1), -1, 3);
        PAIR.refuses("said 99 times and 20", CallBoundsTest::saidOften, x -> x.say(0, 20), -1, 3);
        PAIR.grants("another one", CallBoundsTest::saidOften, x -> x.say(1, 20), 20);
        WordHouse x = new WordHouse();
        saidOften(x);
        granted(x, "it is said", x.entry(0, 3), 99);
        granted(x, "it is used", x.uses(0, 99), 99);
        C.due("undo makes room", x.undo(), true);
        granted(x, "said anew", x.say(0, 19), 99);
    }

    private static void said80(WordHouse x) {
        Check.house(x, "house grace 0 mood 0;entry a rent 1;entry b rent 1");
        for (int k = 0; k < 4; k++) x.say(0, 20);
    }

    private static void saidOften(WordHouse x) {
        said80(x);
        x.say(0, 19);
    }

    /** Promise 49. */
    private static void evicting() {
        PAIR.grants("evict(2)", CallBoundsTest::lived, x -> x.evict(2), 4);
        PAIR.grants("evict(3), and c with it", CallBoundsTest::lived, x -> x.evict(3), 12);
        PAIR.grants("evict(3), c has another meaning", CallBoundsTest::four, x -> x.evict(3), 8);
        PAIR.grants("evict of the only one", CallBoundsTest::one, x -> x.evict(0), 1);
        PAIR.grants("evict(7) of eight", CallBoundsTest::eight, x -> x.evict(7), 128);
        PAIR.refuses("evict of one gone with another", CallBoundsTest::lived, x -> x.evict(1), -1, 5);
        PAIR.refuses("evict of one that went by itself", x -> {
            one(x);
            x.year();
        }, x -> x.evict(0), -1, 5);
    }

    /** Promise 50: 1; 5 (it is in); 6. */
    private static void taking() {
        PAIR.denies("take of one that is in", CallBoundsTest::lived, x -> bit(x.take(2)), 5);
        PAIR.denies("take of one that is in, without a meaning", CallBoundsTest::lived, x -> bit(x.take(3)), 5);
        PAIR.denies("take of one whose meaning lacks one", CallBoundsTest::lived, x -> bit(x.take(1)), 6);
        PAIR.denies("take of one of two meanings that lack some", x -> {
            four(x);
            x.evict(2);
            x.evict(3);
        }, x -> bit(x.take(2)), 6);
        PAIR.grants("take of one without a meaning", CallBoundsTest::lived, x -> bit(x.take(0)), 1);
        PAIR.grants("take by the second meaning", x -> {
            four(x);
            x.evict(2);
        }, x -> bit(x.take(2)), 1);
        WordHouse x = new WordHouse();
        lived(x);
        int acts = x.size(11);
        C.due("take(0)", x.take(0), true);
        C.due("it is in", x.lodgers(), 13);
        C.due("an act", x.size(11), acts + 1);
        C.due("take(1) then", x.take(1), true);
        C.due("all in", x.lodgers(), 15);
        C.due("take(1) again", x.take(1), false);
        C.due("take(1) again tells trouble", x.trouble(), 5);
        // In a ring neither can be taken in ahead of the other.
        PAIR.denies("take into a ring", y -> {
            Check.house(y, "house grace 0 mood 0;entry a rent 1;entry b rent 1;means a b;means b a");
            y.evict(0);
        }, y -> bit(y.take(0)), 6);
    }

    private static void years99(WordHouse x) {
        Check.house(x, "house grace 1 mood 50;entry a rent 0;entry b rent 3;speaker p sailor;says p b times 2");
        x.seed(11);
        for (int y = 0; y < 99; y++) x.year();
    }

    /** Promises 46 and 47: 3 (99 went by). */
    private static void ninetyNineYears() {
        WordHouse x = new WordHouse();
        Check.house(x, "house grace 0 mood 50;entry a rent 0");
        for (int y = 1; y <= 98; y++) x.year();
        granted(x, "the 99th year", x.moodyYear(), 0);
        refused(x, "the 100th year", x.moodyYear(), 3);
        refused(x, "the 100th year", x.year(), 3);
        C.due("undo", x.undo(), true);
        granted(x, "the 99th year again", x.year(), 0);
        C.due("years gone by", x.size(9), 99);
        PAIR.refuses("year() behind 99", CallBoundsTest::years99, y -> y.year(), -1, 3);
        PAIR.refuses("moodyYear() behind 99", CallBoundsTest::years99, y -> y.moodyYear(), -1, 3);
        // The acts end there, what is looked at doesn't: the next year is the 100th, an even one.
        PAIR.looks("debtors of the 100th year", CallBoundsTest::years99, y -> y.debtors(), 0);
        PAIR.looks("after one more", CallBoundsTest::years99, y -> y.after(1), 3);
        PAIR.looks("after sixty more", CallBoundsTest::years99, y -> y.after(60), 3);
        PAIR.looks("mean of the 100th year", CallBoundsTest::years99, y -> y.mean(1, false), 2);
        PAIR.looks("keep through 20 more", CallBoundsTest::years99, y -> y.keep(1), 0);
        PAIR.grants("say behind 99", CallBoundsTest::years99, y -> y.say(0, 1), 1);
        PAIR.grants("evict behind 99", CallBoundsTest::years99, y -> y.evict(0), 1);
        PAIR.grants("image behind 99", CallBoundsTest::years99, y -> y.image(), 0);
        PAIR.grants("seed behind 99", CallBoundsTest::years99, y -> bit(y.seed(0)), 1);
    }

    /** Promise 52: 16 are kept. */
    private static void undoing() {
        // Twice and three times as many as are kept, too: the oldest makes room each time.
        for (int acts = 0; acts <= 52; acts++) {
            WordHouse x = new WordHouse();
            one(x);
            for (int k = 0; k < acts; k++) x.say(0, 1);
            int kept = Math.min(acts, 16);
            C.due("kept of " + acts, x.size(11), kept);
            for (int k = 1; k <= kept; k++) {
                C.due("undo " + k + " of " + acts, x.undo(), true);
                C.due("undo " + k + " of " + acts + " tells no trouble", x.trouble(), 0);
                C.due("said behind undo " + k + " of " + acts, x.entry(0, 3), acts - k);
                C.due("left behind undo " + k + " of " + acts, x.size(11), kept - k);
            }
            C.due("one undo more of " + acts, x.undo(), false);
            C.due("one undo more of " + acts + " tells trouble", x.trouble(), 6);
            C.due("said behind it", x.entry(0, 3), acts - kept);
        }
        PAIR.denies("undo of nothing", CallBoundsTest::one, x -> bit(x.undo()), 6);
        PAIR.denies("undo behind a way back", x -> {
            lived(x);
            x.back(1);
        }, x -> bit(x.undo()), 6);
        PAIR.denies("undo of seed() alone", x -> {
            one(x);
            x.seed(9);
            x.image();
        }, x -> bit(x.undo()), 6);
        // Undone ones make room: behind 16 acts, 10 undone and 12 done there are 16 again.
        WordHouse x = new WordHouse();
        one(x);
        for (int k = 0; k < 16; k++) x.say(0, 1);
        for (int k = 0; k < 10; k++) x.undo();
        for (int k = 0; k < 12; k++) x.say(0, 2);
        C.due("kept", x.size(11), 16);
        for (int k = 0; k < 12; k++) x.undo();
        C.due("said", x.entry(0, 3), 6);
        for (int k = 0; k < 4; k++) x.undo();
        C.due("said at last", x.entry(0, 3), 2);
        C.due("no more", x.undo(), false);
        // Behind a way back, and in a new house, as many are kept as ever.
        x = new WordHouse();
        one(x);
        x.image();
        for (int k = 0; k < 21; k++) x.say(0, 1);
        x.back(0);
        for (int k = 0; k < 37; k++) x.say(0, 1);
        for (int k = 1; k <= 16; k++) {
            x.undo();
            C.due("said behind undo " + k + " behind a way back", x.entry(0, 3), 37 - k);
        }
        C.due("no more behind a way back", x.undo(), false);
        for (int k = 0; k < 11; k++) x.say(0, 1);
        one(x);
        for (int k = 0; k < 50; k++) x.say(0, 1);
        for (int k = 1; k <= 16; k++) {
            x.undo();
            C.due("said behind undo " + k + " in a new house", x.entry(0, 3), 50 - k);
        }
        C.due("no more in a new house", x.undo(), false);
        // Refused acts are none.
        x = new WordHouse();
        lived(x);
        int acts = x.size(11);
        x.say(0, 21);
        x.evict(0);
        x.take(1);
        x.seed(65537);
        x.back(3);
        C.due("acts", x.size(11), acts);
        // The SEED, too, is as ahead of the latest, whatever was set since.
        x = new WordHouse();
        one(x);
        x.seed(5);
        x.say(0, 1);
        x.seed(6);
        x.undo();
        C.due("the seed is back", x.size(10), 5);
    }

    private static void threeImages(WordHouse x) {
        lived(x);
        x.image();
    }

    /** Promises 53 and 54: up to 3. */
    private static void images() {
        for (int images = 0; images < 3; images++) {
            WordHouse x = new WordHouse();
            one(x);
            for (int k = 0; k < images; k++) x.image();
            int many = images;
            C.due("back(" + images + ") of " + images, x.back(images), false);
            C.due("back(" + images + ") of " + images + " tells trouble", x.trouble(), 1);
            granted(x, "one image more", x.image(), many);
            C.due("images", x.size(12), many + 1);
            C.due("back(" + images + ") then", x.back(images), true);
            C.due("back(" + images + ") then tells no trouble", x.trouble(), 0);
        }
        PAIR.refuses("a fourth image", CallBoundsTest::threeImages, x -> x.image(), -1, 3);
        for (int image : new int[] {-1, 3, LEAST, MOST}) {
            PAIR.denies("back(" + image + ")", CallBoundsTest::threeImages, x -> bit(x.back(image)), 1);
        }
        PAIR.denies("back(2) of two", CallBoundsTest::lived, x -> bit(x.back(2)), 1);
        PAIR.refuses("a fourth image behind a way back", x -> {
            threeImages(x);
            x.back(0);
        }, x -> x.image(), -1, 3);
        PAIR.refuses("a fourth image behind an undo", x -> {
            threeImages(x);
            x.undo();
        }, x -> x.image(), -1, 3);
        WordHouse x = new WordHouse();
        threeImages(x);
        C.due("back(0)", x.back(0), true);
        C.due("the year", x.size(9), 1);
        C.due("the seed", x.size(10), 4321);
        C.due("who is in", x.lodgers(), 15);
        C.due("who is behind", x.entry(1, 2), 1);
        C.due("what is said", x.entry(2, 3), 0);
        C.due("all images stay", x.size(12), 3);
        C.due("nothing can be undone", x.size(11), 0);
        C.due("back(2)", x.back(2), true);
        C.due("who is in by it", x.lodgers(), 12);
        C.due("what is said by it", x.entry(2, 3), 6);
        C.due("back(1)", x.back(1), true);
        C.due("who is in by that", x.lodgers(), 15);
        C.due("the year by that", x.size(9), 2);
        C.due("an act behind it can be undone", x.say(0, 1) == 1 && x.undo(), true);
        C.due("but no more", x.undo(), false);
        // An image doesn't change with the house.
        x.evict(3);
        C.due("back(1) again", x.back(1), true);
        C.due("all in again", x.lodgers(), 15);
    }

    /** Promise 55. */
    private static void led() {
        int[][] none = {{-1}, {2}, {8}, {LEAST}, {MOST}};
        for (int[] i : none) {
            WordHouse x = new WordHouse();
            lived(x);
            x.back(9);
            C.due("led(" + i[0] + ") of two", Picture.led(x, i[0]), Picture.NO_SUCH);
            C.due("it leaves trouble", x.trouble(), 1);
            WordHouse other = new WordHouse();
            lived(other);
            C.due("it leaves all as before", Picture.whole(x).difference(Picture.whole(other)).isEmpty(), true);
        }
        WordHouse x = new WordHouse();
        lived(x);
        C.due("led(0) of two", Picture.led(x, 0), 0);
        C.due("led(1) of two", Picture.led(x, 1), 1);
        x = new WordHouse();
        eight(x);
        C.due("led(0) of none", Picture.led(x, 0), Picture.NO_SUCH);
        for (int e = 7; e >= 0; e--) {
            if (x.entry(e, 1) == 1) x.evict(e);
            C.due("led(0)", Picture.led(x, 0), e);
            C.due("the last", Picture.led(x, 7 - e), 7);
            C.due("none behind it", Picture.led(x, 8 - e), Picture.NO_SUCH);
        }
    }

    /** Promise 56: NONE for others; 0 for what there isn't. */
    private static void sizes() {
        WordHouse x = new WordHouse();
        lived(x);
        x.feed(1, 2, 3, 4, 5);
        int seed = 4321;
        for (int k = 0; k < 2; k++) seed = (75 * seed + 74) % 65537;
        int[] due = {1, 50, 4, 3, 1, 2, 3, 2, 1, 2, seed, 5, 2, 20};
        x.evict(0);
        for (int what = 0; what <= 13; what++) C.due("size(" + what + ")", x.size(what), due[what]);
        for (int what : new int[] {-1, 14, LEAST, MOST}) C.due("size(" + what + ")", x.size(what), -1);
        C.due("it leaves trouble", x.trouble(), 5);
        x = new WordHouse();
        one(x);
        int[] least = {0, 0, 1, 0, 0, 0, 0, 0, 0, 0, 0, 0, 0, 0};
        for (int what = 0; what <= 13; what++) C.due("size(" + what + ") of one", x.size(what), least[what]);
    }

    private static void emptied(WordHouse x) {
        Check.house(x, "house grace 0 mood 0;entry a rent 1;entry b rent 1;means b a;means a b");
        x.evict(0);
    }

    /** -2, and 0 of an empty house, are answers: no trouble. */
    private static void noneSuchIsNoRefusal() {
        String calm = "house grace 0 mood 0;entry a rent 0;entry b rent 0;means b a";
        Pair.Way quiet = x -> {
            Check.house(x, calm);
            x.undo();
        };
        PAIR.looks("outIn never", quiet, x -> x.outIn(0), -2);
        PAIR.looks("emptyIn never", quiet, x -> x.emptyIn(), -2);
        PAIR.looks("chime never", quiet, x -> x.chime(0, 1), -2);
        PAIR.looks("ask without an unsure saying", quiet, x -> x.ask(), -2);
        PAIR.looks("askLeaves without an unsure saying", quiet, x -> x.askLeaves(), -2);
        PAIR.looks("judge without any that left", quiet, x -> x.judge(), -2);
        PAIR.looks("firstOut never", quiet, x -> x.firstOut(0, 60), -2);
        PAIR.looks("twins of one", CallBoundsTest::one, x -> x.twins(), -2);
        Pair.Way ring = x -> Check.house(x, "house grace 0 mood 0;entry a rent 9;entry b rent 9;means a b;means b a");
        PAIR.looks("keep by none", ring, x -> x.keep(0), -2);
        PAIR.looks("dearest, as none has one", ring, x -> x.dearest(), -2);
        PAIR.looks("depth in a ring", ring, x -> x.depth(0), -2);
        Pair.Way misfit = x -> Check.house(x, "house grace 0 mood 0;entry a rent 0;speaker p child;says p a times 1;"
            + "unsure p a 0;left a year 1");
        PAIR.looks("ask without fits", misfit, x -> x.ask(), -2);
        PAIR.looks("askLeaves without fits", misfit, x -> x.askLeaves(), -2);
        PAIR.looks("could without fits", misfit, x -> x.could(), 0);
        PAIR.looks("surely without fits", misfit, x -> x.surely(), 0);
        PAIR.looks("fits", misfit, x -> x.fits(), 0);
        PAIR.looks("lodgers of the empty house", CallBoundsTest::emptied, x -> x.lodgers(), 0);
        PAIR.looks("debtors of the empty house", CallBoundsTest::emptied, x -> x.debtors(), 0);
        PAIR.looks("after in the empty house", CallBoundsTest::emptied, x -> x.after(60), 0);
        PAIR.looks("emptyIn of the empty house", CallBoundsTest::emptied, x -> x.emptyIn(), 0);
        PAIR.looks("pillar of the empty house", CallBoundsTest::emptied, x -> x.pillar(), -2);
        PAIR.looks("dearest of the empty house", CallBoundsTest::emptied, x -> x.dearest(), -2);
        PAIR.looks("rings of the empty house", CallBoundsTest::emptied, x -> x.rings(), 0);
        PAIR.looks("point of the empty house", CallBoundsTest::emptied, x -> x.point(), 0);
        PAIR.looks("fell of the empty house", CallBoundsTest::emptied, x -> x.fell(), 0);
        PAIR.looks("moody in the empty house", CallBoundsTest::emptied, x -> x.moody(0, 60), 0);
        PAIR.looks("firstOut of the empty house", CallBoundsTest::emptied, x -> x.firstOut(0, 60), -2);
        PAIR.grants("year of the empty house", CallBoundsTest::emptied, x -> x.year(), 0);
        PAIR.grants("moodyYear of the empty house", CallBoundsTest::emptied, x -> x.moodyYear(), 0);
        PAIR.looks("twins of the empty house", CallBoundsTest::emptied, x -> x.twins(), 1);
        PAIR.looks("families of the empty house", CallBoundsTest::emptied, x -> x.families(), 2);
    }

    /** Promise 57: of the latest call that may be refused; others leave it. */
    private static void troubleOfTheLatest() {
        for (int k = 0; k < OF_THE_HOUSE.length; k++) {
            WordHouse x = new WordHouse();
            one(x);
            x.after(61);
            OF_THE_HOUSE[k].of(x);
            C.due(OF_THE_HOUSE_NAMES[k] + " tells 0 behind another's 2", x.trouble(), 0);
        }
        for (int k = 0; k < OF_ENTRIES.length; k++) {
            WordHouse x = new WordHouse();
            eight(x);
            x.after(61);
            OF_ENTRIES[k].of(x, 7);
            C.due(OF_ENTRIES_NAMES[k] + " tells 0 behind another's 2", x.trouble(), 0);
        }
        WordHouse x = new WordHouse();
        four(x);
        x.after(61);
        x.speaker(0, 0);
        C.due("speaker tells 0 behind another's 2", x.trouble(), 0);
        x.after(61);
        x.mends(0, true, true, true);
        C.due("mends tells 0 behind another's 2", x.trouble(), 0);
        x.after(61);
        x.seed(0);
        C.due("seed tells 0 behind another's 2", x.trouble(), 0);
        x.evict(0);
        x.after(61);
        x.take(0);
        C.due("take tells 0 behind another's 2", x.trouble(), 0);
        x.after(61);
        x.undo();
        C.due("undo tells 0 behind another's 2", x.trouble(), 0);
        x.image();
        x.after(61);
        x.back(0);
        C.due("back tells 0 behind another's 2", x.trouble(), 0);
        x.after(61);
        Check.house(x, ONE);
        C.due("house tells 0 behind another's 2", x.trouble(), 0);
        x.after(61);
        for (int k = 0; k < 46; k++) x.feed(0, 0, 0, 0, 0);
        x.fault();
        x.where();
        x.size(0);
        x.size(14);
        Picture.led(x, 0);
        C.due("trouble behind those that may not be refused", x.trouble(), 2);
        C.due("trouble told again", x.trouble(), 2);
        x.evict(0);
        C.due("led behind a call that isn't refused", Picture.led(x, 0), 0);
        C.due("trouble behind it", x.trouble(), 0);
    }

    /** What only looks changes nothing, however often. */
    private static void lookingChangesNothing() {
        Pair.Way[] ways = {CallBoundsTest::newOne, CallBoundsTest::one, CallBoundsTest::four, CallBoundsTest::lived};
        for (Pair.Way way : ways) {
            WordHouse x = new WordHouse();
            way.go(x);
            Picture first = Picture.still(x);
            Picture second = Picture.still(x);
            C.due("the second look " + first.difference(second), first.difference(second).isEmpty(), true);
            C.due("two looks take few calls", first.calls() + second.calls() < 480, true);
        }
    }

    /** What was looked at ahead of an act plays no part in what is asked behind it. */
    private static void looksLeaveNothingBehind() {
        Pair.Way[] acts = {x -> x.evict(0), x -> x.evict(3), x -> x.year(), x -> x.undo(), x -> x.say(1, 9), x -> x.back(0)};
        List<Pair.Call> looks = looks();
        for (Pair.Way act : acts) {
            for (int ask = 0; ask < looks.size(); ask++) {
                long due = looks.get(ask).of(actedUpon(act, x -> 0));
                for (int look = 0; look < looks.size(); look++) {
                    C.due("look " + ask + " behind look " + look, looks.get(ask).of(actedUpon(act, looks.get(look))), due);
                }
            }
        }
    }

    private static WordHouse actedUpon(Pair.Way act, Pair.Call look) {
        WordHouse x = new WordHouse();
        four(x);
        x.image();
        x.evict(3);
        look.of(x);
        x.take(3);
        look.of(x);
        act.go(x);
        return x;
    }

    /** All calls that only look. */
    private static List<Pair.Call> looks() {
        List<Pair.Call> looks = new ArrayList<>();
        for (int k = 0; k < OF_THE_HOUSE.length; k++) {
            if (!List.of("year", "moodyYear", "image").contains(OF_THE_HOUSE_NAMES[k])) looks.add(OF_THE_HOUSE[k]);
        }
        for (int k = 0; k < OF_ENTRIES.length; k++) {
            Numbered call = OF_ENTRIES[k];
            if (List.of("say", "evict").contains(OF_ENTRIES_NAMES[k])) continue;
            looks.add(x -> call.of(x, 1));
            looks.add(x -> call.of(x, 2));
        }
        looks.add(x -> x.after(60));
        looks.add(x -> x.moody(9, 60));
        looks.add(x -> x.firstOut(9, 60));
        return looks;
    }
}
