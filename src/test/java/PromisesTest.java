import java.util.NoSuchElementException;

/** Each promise of the document by its number: ordinary inputs, edges, and wrong inputs. */
public final class PromisesTest {
    private static final Check C = new Check();

    /** b rests on a and c, c on b or d, e on a; a and e rhyme. */
    private static final String FIVE = "house grace 1 mood 50;entry a rent 5;entry b rent 10;entry c rent 4;"
        + "entry d rent 0;entry e rent 6;means b a,c;means c b;means c d;means e a;rhymes a e;"
        + "speaker p pedant;speaker q child;speaker s sailor;says p a times 8;says q b times 12;"
        + "says s c times 3;says p e times 4;unsure p a 2;left e year 2";

    /** a, b and c mean but each other; d stands alone; e rests on d. */
    private static final String RING = "house grace 0 mood 25;entry a rent 0;entry b rent 0;entry c rent 0;"
        + "entry d rent 0;entry e rent 0;means a b;means b c;means c a;means e d;"
        + "rhymes a b;rhymes b c;rhymes d e";

    private static final String ONE = "house grace 0 mood 0;entry a rent 1";

    public static void main(String[] args) {
        theHouse();
        whatIsNow();
        whoPays();
        yearsAhead();
        evictionsAhead();
        keeping();
        ringsAndGrounds();
        rootsAndNearness();
        rhymes();
        unsureSayings();
        manyFits();
        pedants();
        oddsByMood();
        drawsBySeed();
        yearsByActs();
        wordsByActs();
        undoing();
        images();
        whatIsTold();
        withoutHouse();
        C.end();
    }

    private static void refused(WordHouse x, String call, long got, int number) {
        C.due(call + " refused", got, -1);
        C.due(call + " trouble", x.trouble(), number);
    }

    private static void denied(WordHouse x, String call, boolean got, int number) {
        C.due(call + " denied", got, false);
        C.due(call + " trouble", x.trouble(), number);
    }

    /** Promises 2 to 5. */
    private static void theHouse() {
        WordHouse x = new WordHouse();
        for (int k = 1; k <= 45; k++) C.due("2 feed " + k, x.feed(0x20202020, 0, -1, 1, 2), 20 * k);
        C.due("2 feed beyond 900", x.feed(1, 2, 3, 4, 5), -1);
        C.due("2 nothing came", x.size(13), 900);
        C.due("57 feed tells no number", x.trouble(), 0);
        refused(x, "3 house(901)", x.house(901), 2);
        refused(x, "3 house(-1)", x.house(-1), 2);
        C.due("3 the tape stays", x.size(13), 900);
        C.due("4 no fault by 2", x.fault(), 0);
        refused(x, "3 house(900)", x.house(900), 4);
        C.due("4 fault", x.fault(), 1);
        C.due("5 where", x.where(), 4);
        C.due("3 the tape is empty", x.size(13), 0);
        C.due("2 feed behind a fault keeps where", x.feed(0, 0, 0, 0, 0) + x.where(), 24);
        refused(x, "3 house(21)", x.house(21), 2);
        C.due("4 fault stays through 2", x.fault(), 1);
        C.due("5 where behind 2", x.where(), -1);
        x.house(0);
        C.due("3 house of five", Check.house(x, FIVE), 5);
        C.due("4 no fault", x.fault(), 0);
        C.due("5 no place", x.where(), -1);
        C.due("3 a fault leaves the house", Check.house(x, "house grace 9"), -1);
        C.due("3 it stands", x.lodgers(), 31);
        C.due("4 fault of the latest", x.fault(), 4);
        C.due("5 not of the latest call", x.where(), -1);
        x.year();
        x.say(0, 3);
        x.seed(9);
        x.image();
        C.due("3 house anew", Check.house(x, ONE), 1);
        C.due("3 all in", x.lodgers(), 1);
        for (int what = 9; what <= 13; what++) C.due("3 size " + what, x.size(what), 0);
        C.due("3 nothing said", x.entry(0, 3), 0);
        C.due("3 nobody behind", x.entry(0, 2), 0);
        Check.feed(x, ONE + "$$$$$");
        C.due("3 the first n bytes alone", x.house(ONE.length()), 1);
        Check.feed(x, ONE + "234");
        C.due("3 a number ends with the text", x.house(ONE.length()), 1);
        C.due("3 it is 1", x.entry(0, 0), 1);
        Check.feed(x, ONE.replace("entry a", "entry ab"));
        refused(x, "3 a word ends with the text", x.house(28), 4);
        C.due("5 the end", x.where(), 28);
        Check.feed(x, "                    ");
        refused(x, "3 none of the bytes", x.house(0), 4);
        C.due("5 the end is the beginning", x.where(), 0);
        C.due("3 all 900 bytes", Check.house(x, " ".repeat(900 - ONE.length()) + ONE), 1);
        C.due("3 all 900 bytes, a word last",
            Check.house(x, " ".repeat(900 - ONE.length() - 16) + ONE + ";speaker p child"), 1);
        refused(x, "3 900 bytes of a word", Check.house(x, "a".repeat(900)), 4);
        refused(x, "3 900 bytes of a number", Check.house(x, "1".repeat(900)), 4);
    }

    /** Promises 6 to 10. */
    private static void whatIsNow() {
        WordHouse x = Check.of(FIVE);
        int[] rents = {5, 10, 4, 0, 6};
        int[] meanings = {0, 1, 2, 0, 1};
        int[] rhymes = {16, 0, 0, 0, 1};
        int[] explains = {18, 4, 2, 4, 0};
        for (int e = 0; e < 5; e++) {
            C.due("6 rent " + e, x.entry(e, 0), rents[e]);
            C.due("6 in " + e, x.entry(e, 1), 1);
            C.due("6 behind " + e, x.entry(e, 2), 0);
            C.due("6 said " + e, x.entry(e, 3), 0);
            C.due("6 meanings " + e, x.entry(e, 4), meanings[e]);
            C.due("6 rhymes " + e, x.entry(e, 5), rhymes[e]);
            C.due("6 explains " + e, x.entry(e, 6), explains[e]);
        }
        refused(x, "6 entry(5, 0)", x.entry(5, 0), 1);
        refused(x, "6 entry(-1, 0)", x.entry(-1, 0), 1);
        refused(x, "6 entry(0, 7)", x.entry(0, 7), 1);
        refused(x, "6 entry(0, -1)", x.entry(0, -1), 1);
        C.due("7 b", x.meaning(1, 0), 5);
        C.due("7 c", x.meaning(2, 0), 2);
        C.due("7 c again", x.meaning(2, 1), 8);
        refused(x, "7 meaning(1, 1)", x.meaning(1, 1), 1);
        refused(x, "7 meaning(0, 0)", x.meaning(0, 0), 1);
        refused(x, "7 meaning(2, -1)", x.meaning(2, -1), 1);
        refused(x, "7 meaning(5, 0)", x.meaning(5, 0), 1);
        C.due("8 kinds", x.speaker(0, 0) + 10 * x.speaker(1, 0) + 100 * x.speaker(2, 0), 210);
        C.due("8 says of p", x.speaker(0, 1), 17);
        C.due("8 says of q", x.speaker(1, 1), 2);
        refused(x, "8 speaker(3, 0)", x.speaker(3, 0), 1);
        refused(x, "8 speaker(-1, 0)", x.speaker(-1, 0), 1);
        refused(x, "8 speaker(0, 2)", x.speaker(0, 2), 1);
        C.due("9 a pedant", x.saysIn(0, 0, 99), 8);
        C.due("9 a child at first", x.saysIn(1, 1, 1), 12);
        C.due("9 a child later", x.saysIn(1, 1, 12), 1);
        C.due("9 a child at last", x.saysIn(1, 1, 13), 0);
        C.due("9 a child grown", x.saysIn(1, 1, 99), 0);
        C.due("9 a sailor in odd years", x.saysIn(2, 2, 99), 0);
        C.due("9 a sailor in even years", x.saysIn(2, 2, 98), 6);
        C.due("9 not said", x.saysIn(2, 0, 2), 0);
        refused(x, "9 saysIn(3, 0, 1)", x.saysIn(3, 0, 1), 1);
        refused(x, "9 saysIn(0, 5, 0)", x.saysIn(0, 5, 0), 1);
        refused(x, "9 saysIn(0, 0, 0)", x.saysIn(0, 0, 0), 2);
        refused(x, "9 saysIn(0, 0, 100)", x.saysIn(0, 0, 100), 2);
        C.due("10 uses", x.uses(1, 4), 9);
        x.say(1, 20);
        C.due("10 with what is said", x.uses(1, 4), 29);
        C.due("10 in each year", x.uses(1, 99), 20);
        x.evict(1);
        C.due("10 of one that is out", x.uses(1, 99), 20);
        refused(x, "10 uses(-1, 1)", x.uses(-1, 1), 1);
        refused(x, "10 uses(0, 0)", x.uses(0, 0), 2);
        refused(x, "10 uses(0, 100)", x.uses(0, 100), 2);
        refused(x, "10 uses(9, 100)", x.uses(9, 100), 1);
    }

    /** Promises 11 to 13. */
    private static void whoPays() {
        WordHouse x = Check.of(FIVE);
        C.due("11 by itself", x.pays(0, 1), 1);
        C.due("11 helped: lacks 2, 3 above", x.pays(4, 1), 1);
        C.due("11 not", x.pays(2, 1), 0);
        C.due("11 in even years", x.pays(2, 2), 1);
        C.due("11 rent 0", x.pays(3, 99), 1);
        refused(x, "11 pays(5, 1)", x.pays(5, 1), 1);
        refused(x, "11 pays(0, 0)", x.pays(0, 0), 2);
        C.due("13 debtors", x.debtors(), 4);
        x.evict(0);
        refused(x, "11 out", x.pays(0, 1), 5);
        refused(x, "11 out, wrong year", x.pays(0, 100), 2);
        C.due("12 lodgers", x.lodgers(), 12);
        x = Check.of("house grace 0 mood 0;entry a rent 3;entry b rent 5;entry c rent 6;entry d rent 7;"
            + "rhymes a b;rhymes c a;rhymes a d;speaker p pedant;says p a times 9");
        C.due("11 as many as it lacks", x.pays(2, 1), 1);
        C.due("11 one more than that", x.pays(3, 1), 0);
        C.due("13 one helps several", x.debtors(), 8);
        x.evict(0);
        C.due("13 none helps from outside", x.debtors(), 14);
    }

    /** Promises 14 to 16. */
    private static void yearsAhead() {
        WordHouse x = Check.of(FIVE);
        C.due("14 now", x.after(0), 31);
        C.due("14 four", x.after(4), 31);
        C.due("14 five", x.after(5), 29);
        C.due("14 sixty", x.after(60), 29);
        refused(x, "14 after(61)", x.after(61), 2);
        refused(x, "14 after(-1)", x.after(-1), 2);
        C.due("15 b", x.outIn(1), 5);
        C.due("15 never", x.outIn(3), -2);
        refused(x, "15 outIn(5)", x.outIn(5), 1);
        C.due("16 never", x.emptyIn(), -2);
        C.due("14 nothing changed", x.size(9), 0);
        x.evict(0);
        C.due("15 out", x.outIn(0), 0);
        x = Check.of("house grace 3 mood 0;entry a rent 1;entry b rent 1;speaker p child;"
            + "says p a times 40;means b a");
        C.due("15 grace of three", x.outIn(1), 4);
        C.due("15 said until year 40", x.outIn(0), 44);
        C.due("16 with the last", x.emptyIn(), 44);
        x.evict(0);
        C.due("16 empty", x.emptyIn(), 0);
        x = Check.of("house grace 0 mood 0;entry a rent 9;entry b rent 0;entry c rent 0;means b a;means c b");
        C.due("14 who loses its meaning goes the same year", x.after(1), 0);
        C.due("16 at once", x.emptyIn(), 1);
    }

    /** Promises 17 and 18. */
    private static void evictionsAhead() {
        WordHouse x = Check.of(FIVE);
        C.due("17 pillar", x.pillar(), 0);
        C.due("18 with a", x.goWith(0), 19);
        C.due("18 with b", x.goWith(1), 2);
        C.due("18 with c", x.goWith(2), 6);
        C.due("18 with d", x.goWith(3), 8);
        refused(x, "18 goWith(5)", x.goWith(5), 1);
        x.evict(3);
        C.due("18 c rests on b alone", x.goWith(1), 6);
        refused(x, "18 out", x.goWith(3), 5);
        x = Check.of(RING);
        C.due("17 the first of like ones", x.pillar(), 0);
        x.evict(1);
        C.due("17 now d", x.pillar(), 3);
        x.evict(3);
        C.due("17 empty", x.pillar(), -2);
    }

    /** Promises 19 and 20. */
    private static void keeping() {
        WordHouse x = Check.of(FIVE);
        C.due("19 b in the year 20 is not said", x.keep(1), 10);
        C.due("19 pays anyway", x.keep(0), 0);
        C.due("20 dearest", x.dearest(), 1);
        C.due("19 nothing said", x.entry(1, 3), 0);
        refused(x, "19 keep(-1)", x.keep(-1), 1);
        x.evict(1);
        refused(x, "19 out", x.keep(1), 5);
        x = Check.of("house grace 0 mood 0;entry a rent 60;entry b rent 1;entry c rent 1;means b a;rhymes b c");
        C.due("19 by itself", x.keep(0), 60);
        C.due("19 by none, its meaning goes", x.keep(1), -2);
        C.due("19 c", x.keep(2), 1);
        C.due("20 of those that have one", x.dearest(), 0);
        x = Check.of("house grace 0 mood 0;entry a rent 60;entry b rent 10;means b a;rhymes a b");
        C.due("19 it helps what it rests on", x.keep(1), 70);
        C.due("20 the other", x.dearest(), 1);
        x = Check.of("house grace 0 mood 0;entry a rent 60;entry b rent 40;means b a;rhymes a b");
        C.due("19 beyond 99", x.keep(1), -2);
        x = Check.of("house grace 0 mood 0;entry a rent 60;entry b rent 39;means b a;rhymes a b");
        C.due("19 just 99", x.keep(1), 99);
        x = Check.of("house grace 0 mood 0;entry a rent 9;entry b rent 9;means a b;means b a");
        C.due("20 there is none", x.dearest(), -2);
        x = Check.of("house grace 0 mood 0;entry a rent 0;entry b rent 0");
        C.due("20 the first of like ones", x.dearest(), 0);
        x = Check.of("house grace 3 mood 0;entry a rent 1;speaker p child;says p a times 16");
        C.due("19 behind by 4 in year 20", x.keep(0), 1);
        x = Check.of("house grace 3 mood 0;entry a rent 1;speaker p child;says p a times 17");
        C.due("19 behind by 3 in year 20", x.keep(0), 0);
        x.year();
        C.due("19 the next twenty", x.keep(0), 1);
        x.say(0, 2);
        C.due("19 beside what is said", x.keep(0), 0);
    }

    /** Promises 21 to 24. */
    private static void ringsAndGrounds() {
        WordHouse x = Check.of(FIVE);
        C.due("21 none", x.rings(), 0);
        C.due("22 none", x.point(), 0);
        int[] deep = {0, 2, 1, 0, 1};
        for (int e = 0; e < 5; e++) C.due("23 depth " + e, x.depth(e), deep[e]);
        refused(x, "23 depth(5)", x.depth(5), 1);
        C.due("24 a and d", x.fell(), 9);
        x.evict(3);
        C.due("21 b and c", x.rings(), 6);
        C.due("22 the least bits", x.point(), 2);
        C.due("23 out", x.depth(3), -2);
        C.due("23 not grounded", x.depth(2), -2);
        C.due("24 a alone", x.fell(), 1);
        x = Check.of(RING);
        C.due("21 three", x.rings(), 7);
        C.due("22 one", x.point(), 1);
        C.due("24 two", x.fell(), 9);
        x = Check.of("house grace 0 mood 0;entry a rent 0;entry b rent 0;entry c rent 0;entry d rent 0;"
            + "means a b,c;means b c;means c b;means d b;means b a,c");
        C.due("21 all", x.rings(), 15);
        C.due("22 b or c", x.point(), 2);
        C.due("24 b or c", x.fell(), 2);
        x = Check.of("house grace 0 mood 0;entry a rent 0;entry b rent 0;entry c rent 0;entry d rent 0;"
            + "means a b;means b a;means c d;means d c");
        C.due("22 one of each ring", x.point(), 5);
        C.due("24 one of each ring", x.fell(), 5);
        x.evict(0);
        C.due("21 those in the house", x.rings(), 12);
        x.evict(2);
        C.due("21 empty", x.rings(), 0);
        C.due("22 empty", x.point(), 0);
        C.due("24 empty", x.fell(), 0);
        x = Check.of("house grace 0 mood 0;entry a rent 0;entry b rent 0;entry c rent 0;means c a,b;means b a;means c b");
        C.due("23 chain", x.depth(2), 2);
        x = Check.of("house grace 0 mood 0;entry a rent 0;entry b rent 0;entry c rent 0;means b a;means c b;means c a");
        C.due("23 the least", x.depth(2), 1);
    }

    /** Promises 25 to 28. */
    private static void rootsAndNearness() {
        WordHouse x = Check.of(FIVE);
        int[] roots = {0, 15, 15, 0, 1};
        int[] circular = {0, 1, 1, 0, 0};
        x.evict(0);
        for (int e = 0; e < 5; e++) {
            C.due("25 roots " + e, x.roots(e), roots[e]);
            C.due("26 circular " + e, x.circular(e), circular[e]);
            refused(x, "27 apart", x.apart(e, 5), 1);
            refused(x, "27 apart", x.apart(-1, e), 1);
        }
        refused(x, "25 roots(5)", x.roots(5), 1);
        refused(x, "26 circular(-1)", x.circular(-1), 1);
        C.due("27 b and e", x.apart(1, 4), 1);
        C.due("27 e and b", x.apart(4, 1), 1);
        C.due("27 without any", x.apart(0, 3), 0);
        C.due("27 an empty one", x.apart(2, 0), 1);
        C.due("27 b and c", x.apart(1, 2), 3);
        C.due("27 itself", x.apart(2, 2), 0);
        C.due("28 twins", x.twins(), 3);
        C.due("28 no two", Check.of(ONE).twins(), -2);
        x = Check.of("house grace 0 mood 0;entry a rent 0;entry b rent 0;entry c rent 0;entry d rent 0;entry e rent 0;"
            + "means a b,c,d;means b a,c,d,e;means c a,b;means c d;means d a;means d c;means e b,c,d");
        C.due("28 behind the first", x.twins(), 4);
        C.due("27 of all meanings", x.apart(2, 3), 1);
        x = Check.of("house grace 0 mood 0;entry a rent 0;entry b rent 0;entry c rent 0;means a b,c;means b c;means c b");
        C.due("28 the first two", x.twins(), 1);
    }

    /** Promises 29 and 30. */
    private static void rhymes() {
        WordHouse x = Check.of(RING);
        x.evict(1);
        C.due("29 itself", x.chime(1, 1), 0);
        C.due("29 one", x.chime(1, 0), 1);
        C.due("29 through whoever", x.chime(0, 2), 2);
        C.due("29 never", x.chime(0, 3), -2);
        refused(x, "29 chime(0, 5)", x.chime(0, 5), 1);
        refused(x, "29 chime(-1, 0)", x.chime(-1, 0), 1);
        C.due("30 two", x.families(), 2);
        C.due("30 lone ones", Check.of(FIVE).families(), 4);
        x = Check.of("house grace 0 mood 0;entry a rent 0;entry b rent 0;entry c rent 0;entry d rent 0;entry e rent 0;"
            + "entry f rent 0;entry g rent 0;entry h rent 0;rhymes a h;rhymes h b;rhymes b g;rhymes g c;rhymes c f;rhymes f d");
        C.due("29 the longest", x.chime(0, 3), 6);
        C.due("30 one besides", x.families(), 2);
    }

    /** Promises 31 to 37. */
    private static void unsureSayings() {
        WordHouse x = Check.of(FIVE);
        x.say(4, 20);
        x.year();
        C.due("31 fits", x.fits(), 1);
        C.due("32 the only one", x.fitAt(0), 1);
        refused(x, "32 fitAt(1)", x.fitAt(1), 1);
        refused(x, "32 fitAt(-1)", x.fitAt(-1), 1);
        C.due("33 could", x.could(), 1);
        C.due("34 surely", x.surely(), 1);
        C.due("35 ask", x.ask(), 0);
        C.due("36 leaves", x.askLeaves(), 1);
        C.due("37 judge", x.judge(), 4);
        x = Check.of(ONE);
        C.due("31 the empty set", x.fits(), 1);
        C.due("32 the empty set", x.fitAt(0), 0);
        C.due("33 nothing", x.could(), 0);
        C.due("34 nothing", x.surely(), 0);
        C.due("35 no unsure saying", x.ask(), -2);
        C.due("36 no unsure saying", x.askLeaves(), -2);
        C.due("37 none told", x.judge(), -2);
        x = Check.of("house grace 0 mood 0;entry a rent 1;speaker p pedant;says p a times 1;unsure p a 2;left a year 1");
        C.due("31 none", x.fits(), 0);
        refused(x, "32 none", x.fitAt(0), 1);
        C.due("33 none", x.could(), 0);
        C.due("34 none", x.surely(), 0);
        C.due("35 no fits", x.ask(), -2);
        C.due("36 no fits", x.askLeaves(), -2);
        C.due("37 it stays", x.judge(), 0);
        x = Check.of(ONE + ";left a year 2");
        C.due("37 a year too early", x.judge(), 0);
        x = Check.of(ONE + ";left a year 1");
        C.due("37 just so", x.judge(), -2);
        x = Check.of("house grace 0 mood 0;entry a rent 1;speaker p child;says p a times 12;left a year 12");
        C.due("37 behind year 12", x.judge(), 0);
        x = Check.of("house grace 0 mood 0;entry a rent 1;speaker p child;says p a times 11;left a year 12");
        C.due("37 in year 12", x.judge(), -2);
    }

    private static void manyFits() {
        // a goes in year 1 if p or q, both told to say it once, do not say it.
        WordHouse x = Check.of("house grace 0 mood 0;entry a rent 2;entry b rent 1;speaker p pedant;speaker q pedant;"
            + "says p a times 1;says q a times 1;says p b times 1;unsure p a 0;unsure p b 0;unsure q a 0;left a year 1");
        C.due("31 six", x.fits(), 6);
        int[] sets = {1, 3, 4, 5, 6, 7};
        for (int i = 0; i < 6; i++) C.due("32 fit " + i, x.fitAt(i), sets[i]);
        C.due("33 all", x.could(), 7);
        C.due("34 none in all", x.surely(), 0);
        C.due("35 b halves them", x.ask(), 1);
        C.due("36 three", x.askLeaves(), 3);
        C.due("37 a", x.judge(), 0);
        x = Check.of("house grace 0 mood 0;entry a rent 2;speaker p pedant;speaker q pedant;speaker r pedant;"
            + "says p a times 1;says q a times 1;says r a times 1;unsure p a 0;unsure q a 0;unsure r a 2;left a year 1");
        // of 0/1 and 0/1 and 1/2 the sum is below 2 only by 0, 0, 1.
        C.due("31 one", x.fits(), 1);
        C.due("32 p and q", x.fitAt(0), 3);
        C.due("34 p and q", x.surely(), 3);
        C.due("35 the first of like ones", x.ask(), 0);
    }

    /** Promises 38 to 40. */
    private static void pedants() {
        WordHouse x = Check.of(ONE);
        C.due("38 both mend", x.mends(9, true, true, false), -8);
        C.due("38 both mend, the other", x.mends(9, true, true, true), -8);
        C.due("38 alone", x.mends(3, true, false, false), 4);
        C.due("38 not he", x.mends(3, true, false, true), 0);
        C.due("38 the other alone", x.mends(3, false, true, true), 4);
        C.due("38 the one then", x.mends(3, false, true, false), 0);
        C.due("38 both let be", x.mends(0, false, false, false) + x.mends(0, false, false, true), 4);
        C.due("38 ink 10", x.mends(10, false, false, false), -100);
        C.due("38 trouble", x.trouble(), 2);
        C.due("38 ink -1", x.mends(-1, false, false, false), -100);
        C.due("38 trouble", x.trouble(), 2);
        int[] rests = {1, 3, 2, 2, 2, 2, 2, 2, 2, 2};
        for (int ink = 0; ink <= 9; ink++) {
            C.due("39 rests " + ink, x.rests(ink), rests[ink]);
            C.due("40 rest " + ink, x.rest(ink), ink == 0 ? 11 : 1);
        }
        refused(x, "39 rests(10)", x.rests(10), 2);
        refused(x, "39 rests(-1)", x.rests(-1), 2);
        refused(x, "40 rest(10)", x.rest(10), 2);
        refused(x, "40 rest(-1)", x.rest(-1), 2);
    }

    private static void ratio(String what, long upper, long lower, long wantUpper, long wantLower) {
        C.due(what + " upper", upper, wantUpper);
        C.due(what + " lower", lower, wantLower);
    }

    /** Promises 41 to 43. */
    private static void oddsByMood() {
        WordHouse x = Check.of("house grace 0 mood 20;entry a rent 5;entry b rent 3;entry c rent 0;means c a;rhymes a b;"
            + "speaker p pedant;speaker q pedant;speaker r child;speaker s sailor;"
            + "says p a times 4;says q a times 4;says r b times 6;says s a times 5");
        // a: both p and q (16/25), or one of them (8/25) with r, who helps by 3 (4/5).
        ratio("41 a", x.odds(0, false), x.odds(0, true), 112, 125);
        ratio("41 b: r, or p and q without r", x.odds(1, false), x.odds(1, true), 116, 125);
        ratio("41 c", x.odds(2, false), x.odds(2, true), 1, 1);
        ratio("42 a", x.mean(0, false), x.mean(0, true), 32, 5);
        ratio("42 b", x.mean(1, false), x.mean(1, true), 24, 5);
        ratio("42 c", x.mean(2, false), x.mean(2, true), 0, 1);
        ratio("43 a", x.stays(0, false), x.stays(0, true), 112, 125);
        ratio("43 c with a", x.stays(2, false), x.stays(2, true), 112, 125);
        x.say(2, 3);
        ratio("42 what is said has no mood", x.mean(2, false), x.mean(2, true), 3, 1);
        refused(x, "41 odds(3)", x.odds(3, true), 1);
        refused(x, "42 mean(3)", x.mean(3, true), 1);
        refused(x, "43 stays(-1)", x.stays(-1, true), 1);
        x.evict(0);
        refused(x, "41 out", x.odds(0, false), 5);
        ratio("42 out", x.mean(0, false), x.mean(0, true), 32, 5);
        C.due("42 trouble", x.trouble(), 0);
        ratio("43 out", x.stays(0, false), x.stays(0, true), 0, 1);
        ratio("41 b without a", x.odds(1, false), x.odds(1, true), 4, 5);
        x = Check.of("house grace 0 mood 100;entry a rent 1;speaker p pedant;says p a times 9");
        ratio("41 always silent", x.odds(0, false), x.odds(0, true), 0, 1);
        ratio("42 always silent", x.mean(0, false), x.mean(0, true), 0, 1);
        x = Check.of("house grace 0 mood 0;entry a rent 1;speaker p pedant;says p a times 9");
        ratio("43 never silent", x.stays(0, false), x.stays(0, true), 1, 1);
        x = Check.of("house grace 0 mood 1;entry a rent 2;speaker p sailor;speaker q sailor;speaker r sailor;"
            + "speaker s sailor;says p a times 1;says q a times 1;says r a times 1;says s a times 1");
        ratio("41 in odd years", x.odds(0, false), x.odds(0, true), 0, 1);
        x.evict(0);
        x.year();
        x.take(0);
        ratio("41 all but all silent", x.odds(0, false), x.odds(0, true), 99999999L, 100000000L);
        ratio("43 all but all silent", x.stays(0, false), x.stays(0, true), 99999999L, 100000000L);
        ratio("42 next year", x.mean(0, false), x.mean(0, true), 198, 25);
    }

    /** Promises 44 and 45. */
    private static void drawsBySeed() {
        WordHouse x = Check.of(FIVE);
        C.due("44 one", x.moody(0, 1), 31);
        C.due("44 two", x.moody(0, 2), 25);
        C.due("44 none", x.moody(65536, 0), 31);
        C.due("45 two", x.firstOut(0, 2), 2);
        C.due("45 one", x.firstOut(0, 1), -2);
        C.due("45 none", x.firstOut(0, 0), -2);
        refused(x, "44 moody(0, 61)", x.moody(0, 61), 2);
        refused(x, "44 moody(0, -1)", x.moody(0, -1), 2);
        refused(x, "44 moody(65537, 1)", x.moody(65537, 1), 2);
        refused(x, "44 moody(-1, 1)", x.moody(-1, 1), 2);
        refused(x, "45 firstOut(0, 61)", x.firstOut(0, 61), 2);
        refused(x, "45 firstOut(65537, 1)", x.firstOut(65537, 1), 2);
        refused(x, "45 firstOut(-1, 1)", x.firstOut(-1, 1), 2);
        C.due("44 the seed stays", x.size(10), 0);
        // From 65536 the seed becomes -1 times 75 and 74, which is 65536 again: 36 of a hundred, always.
        x = Check.of("house grace 0 mood 36;entry a rent 1;speaker p pedant;says p a times 1");
        C.due("44 36 is not below 36", x.moody(65536, 60), 1);
        x = Check.of("house grace 0 mood 37;entry a rent 1;speaker p pedant;says p a times 1");
        C.due("44 36 is below 37", x.moody(65536, 1), 0);
        C.due("45 at once", x.firstOut(65536, 60), 1);
    }

    /** Promises 46, 47 and 51. */
    private static void yearsByActs() {
        WordHouse x = Check.of(FIVE);
        C.due("46 nobody", x.year(), 0);
        C.due("46 c is behind", x.entry(2, 2), 1);
        C.due("46 nobody", x.year(), 0);
        C.due("46 c has paid", x.entry(2, 2), 0);
        x.year();
        x.year();
        C.due("46 b goes", x.year(), 2);
        C.due("46 behind no more", x.entry(1, 2), 0);
        for (int y = 6; y <= 99; y++) C.due("46 year " + y, x.year(), 0);
        refused(x, "46 year()", x.year(), 3);
        refused(x, "47 moodyYear()", x.moodyYear(), 3);
        C.due("46 years gone by", x.size(9), 99);
        C.due("14 beyond", x.after(2), 29);
        x = Check.of(FIVE);
        C.due("47 nobody", x.moodyYear(), 0);
        C.due("47 three draws", x.size(10), 28652);
        C.due("47 as foretold", x.moodyYear(), 31 & ~25);
        C.due("47 as foretold", x.lodgers(), 25);
        C.due("47 years gone by", x.size(9), 2);
        C.due("51 seed", x.seed(65536), true);
        C.due("51 it is", x.size(10), 65536);
        denied(x, "51 seed(65537)", x.seed(65537), 2);
        denied(x, "51 seed(-1)", x.seed(-1), 2);
        C.due("51 it stays", x.size(10), 65536);
        C.due("51 no act", x.size(11), 2);
    }

    /** Promises 48 to 50. */
    private static void wordsByActs() {
        WordHouse x = Check.of(FIVE);
        C.due("48 say", x.say(2, 4), 4);
        C.due("48 say more", x.say(2, 20), 24);
        C.due("48 told", x.entry(2, 3), 24);
        refused(x, "48 say(5, 1)", x.say(5, 1), 1);
        refused(x, "48 say(0, 0)", x.say(0, 0), 2);
        refused(x, "48 say(0, 21)", x.say(0, 21), 2);
        x.say(2, 20);
        x.say(2, 20);
        x.say(2, 20);
        refused(x, "48 above 99", x.say(2, 16), 3);
        C.due("48 just 99", x.say(2, 15), 99);
        refused(x, "48 above 99", x.say(2, 1), 3);
        C.due("49 evict", x.evict(0), 19);
        refused(x, "49 out", x.evict(0), 5);
        refused(x, "49 out with it", x.evict(4), 5);
        refused(x, "49 evict(5)", x.evict(5), 1);
        C.due("48 an out one", x.say(0, 1), 1);
        denied(x, "50 take(5)", x.take(5), 1);
        denied(x, "50 in", x.take(3), 5);
        denied(x, "50 no meaning", x.take(4), 6);
        C.due("50 take", x.take(0), true);
        C.due("50 trouble", x.trouble(), 0);
        C.due("50 then e", x.take(4), true);
        C.due("50 in the house", x.lodgers(), 29);
        x = Check.of("house grace 3 mood 0;entry a rent 1");
        x.year();
        x.year();
        C.due("46 behind", x.entry(0, 2), 2);
        x.evict(0);
        C.due("6 out: 0", x.entry(0, 2), 0);
        x.take(0);
        C.due("50 behind by 0", x.entry(0, 2), 0);
        C.due("15 anew", x.outIn(0), 4);
    }

    /** Promise 52. */
    private static void undoing() {
        WordHouse x = Check.of(FIVE);
        denied(x, "52 nothing", x.undo(), 6);
        x.seed(7);
        x.year();
        x.seed(9);
        C.due("52 undo", x.undo(), true);
        C.due("52 trouble", x.trouble(), 0);
        C.due("52 the seed too", x.size(10), 7);
        C.due("52 the year", x.size(9), 0);
        C.due("52 who is behind", x.entry(2, 2), 0);
        x.moodyYear();
        x.say(1, 5);
        x.evict(0);
        x.take(0);
        C.due("11 acts", x.size(11), 4);
        x.undo();
        C.due("52 take", x.lodgers(), 12);
        x.undo();
        C.due("52 evict", x.lodgers(), 31);
        x.undo();
        C.due("52 say", x.entry(1, 3), 0);
        x.undo();
        C.due("52 moody", x.size(10), 7);
        denied(x, "52 no more", x.undo(), 6);
        for (int k = 0; k < 20; k++) x.say(3, 1);
        C.due("52 sixteen are kept", x.size(11), 16);
        for (int k = 19; k >= 4; k--) {
            x.undo();
            C.due("52 said", x.entry(3, 3), k);
        }
        denied(x, "52 not the seventeenth", x.undo(), 6);
        x.evict(3);
        x.evict(3);
        x.say(0, 0);
        x.take(1);
        C.due("52 refused ones are no acts", x.size(11), 1);
    }

    /** Promises 53 and 54. */
    private static void images() {
        WordHouse x = Check.of(FIVE);
        denied(x, "54 none", x.back(0), 1);
        C.due("53 first", x.image(), 0);
        x.seed(5);
        x.evict(0);
        C.due("53 second", x.image(), 1);
        x.year();
        x.say(3, 3);
        C.due("53 third", x.image(), 2);
        refused(x, "53 a fourth", x.image(), 3);
        C.due("52 through images", x.undo(), true);
        C.due("53 images stay", x.size(12), 3);
        C.due("54 back", x.back(0), true);
        C.due("54 all in", x.lodgers(), 31);
        C.due("54 seed", x.size(10), 0);
        C.due("54 year", x.size(9), 0);
        denied(x, "54 nothing to undo", x.undo(), 6);
        C.due("54 images stay", x.size(12), 3);
        C.due("54 on", x.back(2), true);
        C.due("54 said", x.entry(3, 3), 3);
        C.due("54 year", x.size(9), 1);
        C.due("54 seed", x.size(10), 5);
        C.due("54 lodgers", x.lodgers(), 12);
        x.year();
        C.due("54 again", x.back(2), true);
        C.due("54 as by the image", x.size(9), 1);
        denied(x, "54 back(3)", x.back(3), 1);
        denied(x, "54 back(-1)", x.back(-1), 1);
    }

    private static int led(WordHouse x, int i) {
        try {
            return x.led(i);
        } catch (NoSuchElementException none) {
            return -7;
        }
    }

    /** Promises 55 to 57. */
    private static void whatIsTold() {
        WordHouse x = Check.of(FIVE);
        C.due("55 none is out", led(x, 0), -7);
        x.evict(0);
        x.year();
        C.due("55 a", led(x, 0), 0);
        C.due("55 b", led(x, 1), 1);
        C.due("55 e", led(x, 2), 4);
        C.due("55 no more", led(x, 3), -7);
        C.due("55 below", led(x, -1), -7);
        refused(x, "57 evict(0)", x.evict(0), 5);
        led(x, 9);
        x.feed(0, 0, 0, 0, 0);
        x.fault();
        x.where();
        int[] sizes = {1, 50, 5, 4, 1, 3, 4, 1, 1, 1, 0, 2, 0, 20};
        for (int what = 0; what < 14; what++) C.due("56 size " + what, x.size(what), sizes[what]);
        C.due("56 others", x.size(14) + x.size(-1), -2);
        C.due("57 trouble of the latest that may be refused", x.trouble(), 5);
        x.lodgers();
        C.due("57 not refused", x.trouble(), 0);
        x.odds(0, true);
        C.due("57 odds", x.trouble(), 5);
        x.stays(0, true);
        C.due("57 stays", x.trouble(), 0);
        x.mends(77, true, true, true);
        x.undo();
        C.due("57 undo", x.trouble(), 0);
    }

    /** Promise 1, and what each call says without a HOUSE. */
    private static void withoutHouse() {
        WordHouse x = new WordHouse();
        C.due("1 trouble", x.trouble(), 0);
        C.due("1 fault", x.fault(), 0);
        C.due("1 where", x.where(), -1);
        for (int what = 0; what < 14; what++) C.due("1 size " + what, x.size(what), 0);
        C.due("1 size 14", x.size(14), -1);
        C.due("1 led", led(x, 0), -7);
        refused(x, "1 entry", x.entry(0, 0), 1);
        refused(x, "1 meaning", x.meaning(0, 0), 1);
        refused(x, "1 speaker", x.speaker(0, 0), 1);
        refused(x, "1 saysIn", x.saysIn(0, 0, 0), 1);
        refused(x, "1 uses", x.uses(0, 0), 1);
        refused(x, "1 pays", x.pays(0, 0), 1);
        refused(x, "12 lodgers", x.lodgers(), 1);
        refused(x, "13 debtors", x.debtors(), 1);
        refused(x, "14 after", x.after(99), 1);
        refused(x, "15 outIn", x.outIn(0), 1);
        refused(x, "16 emptyIn", x.emptyIn(), 1);
        refused(x, "17 pillar", x.pillar(), 1);
        refused(x, "18 goWith", x.goWith(0), 1);
        refused(x, "19 keep", x.keep(0), 1);
        refused(x, "20 dearest", x.dearest(), 1);
        refused(x, "21 rings", x.rings(), 1);
        refused(x, "22 point", x.point(), 1);
        refused(x, "23 depth", x.depth(0), 1);
        refused(x, "24 fell", x.fell(), 1);
        refused(x, "25 roots", x.roots(0), 1);
        refused(x, "26 circular", x.circular(0), 1);
        refused(x, "27 apart", x.apart(0, 0), 1);
        refused(x, "28 twins", x.twins(), 1);
        refused(x, "29 chime", x.chime(0, 0), 1);
        refused(x, "30 families", x.families(), 1);
        refused(x, "31 fits", x.fits(), 1);
        refused(x, "32 fitAt", x.fitAt(0), 1);
        refused(x, "33 could", x.could(), 1);
        refused(x, "34 surely", x.surely(), 1);
        refused(x, "35 ask", x.ask(), 1);
        refused(x, "36 askLeaves", x.askLeaves(), 1);
        refused(x, "37 judge", x.judge(), 1);
        C.due("38 mends", x.mends(99, true, true, true), -100);
        C.due("38 trouble", x.trouble(), 1);
        refused(x, "39 rests", x.rests(99), 1);
        refused(x, "40 rest", x.rest(99), 1);
        refused(x, "41 odds", x.odds(0, true), 1);
        refused(x, "42 mean", x.mean(0, true), 1);
        refused(x, "43 stays", x.stays(0, true), 1);
        refused(x, "44 moody", x.moody(-1, 99), 1);
        refused(x, "45 firstOut", x.firstOut(-1, 99), 1);
        refused(x, "46 year", x.year(), 1);
        refused(x, "47 moodyYear", x.moodyYear(), 1);
        refused(x, "48 say", x.say(0, 0), 1);
        refused(x, "49 evict", x.evict(0), 1);
        denied(x, "50 take", x.take(0), 1);
        denied(x, "51 seed", x.seed(-1), 1);
        denied(x, "52 undo", x.undo(), 6);
        refused(x, "53 image", x.image(), 1);
        denied(x, "54 back", x.back(0), 1);
    }
}
