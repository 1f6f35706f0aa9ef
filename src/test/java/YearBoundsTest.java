/**
 * The bounds of what years bring (II of the document's terms), and of what is worked out (III): who just pays and who
 * just doesn't, who is BEHIND by the grace and by more; the least, the most, the first of like ones, the empty and the
 * full; the SEED's going round.
 */
public final class YearBoundsTest {
    private static final Check C = new Check();

    public static void main(String[] args) {
        uses();
        pays();
        help();
        grace();
        goingOut();
        yearsAhead();
        pillars();
        keepBounds();
        keepYears();
        dearest();
        rings();
        point();
        depth();
        fell();
        roots();
        apart();
        rhymes();
        fits();
        asking();
        sets();
        eachSetOfFour();
        judging();
        likelihoods();
        means();
        draws();
        seedRound();
        moodyYears();
        unsureOnesAreAsTold();
        C.end();
    }

    private static String house(int grace, int mood, int... rents) {
        StringBuilder text = new StringBuilder("house grace " + grace + " mood " + mood);
        for (int e = 0; e < rents.length; e++) text.append(";entry ").append((char) ('a' + e)).append(" rent ").append(rents[e]);
        return text.toString();
    }

    /** II: a child 0 at least; a sailor in even years alone; SAID each year. */
    private static void uses() {
        WordHouse x = Check.of(house(0, 0, 0, 0) + ";speaker p pedant;speaker q child;speaker r child;speaker s sailor;"
            + "says p a times 40;says q a times 1;says r a times 5;says s b times 40");
        C.due("year 1", x.uses(0, 1), 46);
        C.due("year 2", x.uses(0, 2), 44);
        // The child that has grown up takes nothing from what the other says.
        C.due("year 5", x.uses(0, 5), 41);
        C.due("year 6", x.uses(0, 6), 40);
        C.due("year 99", x.uses(0, 99), 40);
        C.due("a child says 1 in year 1", x.saysIn(1, 0, 1), 1);
        C.due("and 0 in year 2", x.saysIn(1, 0, 2), 0);
        C.due("and 0 in year 3", x.saysIn(1, 0, 3), 0);
        C.due("a sailor in year 1", x.uses(1, 1), 0);
        C.due("a sailor in year 2", x.uses(1, 2), 80);
        C.due("a sailor in year 3", x.uses(1, 3), 0);
        x.say(1, 20);
        C.due("said in odd years", x.uses(1, 1), 20);
        C.due("said in even years", x.uses(1, 2), 100);
        C.due("said in the last year", x.uses(1, 99), 20);
        C.due("no speaker says it", x.saysIn(0, 1, 2), 0);
        x = Check.of(house(0, 0, 60) + ";speaker p child;says p a times 40");
        C.due("a child's last", x.uses(0, 40), 1);
        C.due("a child has grown", x.uses(0, 41), 0);
    }

    /** II: USES are its rent or more. */
    private static void pays() {
        for (int often = 1; often <= 40; often++) {
            WordHouse x = Check.of(house(0, 0, often, often - 1, often + 1) + ";speaker p pedant;says p a times " + often
                + ";says p b times " + often + ";says p c times " + often);
            C.due("just its rent " + often, x.pays(0, 1), 1);
            C.due("one above", x.pays(1, 1), 1);
            C.due("one below", x.pays(2, 1), 0);
            C.due("debtors", x.debtors(), 4);
        }
        WordHouse x = Check.of(house(0, 0, 0, 60));
        C.due("rent 0 of one not said", x.pays(0, 1), 1);
        for (int k = 0; k < 2; k++) x.say(1, 20);
        x.say(1, 19);
        C.due("59 of 60", x.pays(1, 1), 0);
        x.say(1, 1);
        C.due("60 of 60", x.pays(1, 1), 1);
        C.due("nobody owes", x.debtors(), 0);
        x = Check.of(house(3, 0, 2) + ";speaker p child;says p a times 3");
        x.year();
        C.due("debtors in year 2", x.debtors(), 0);
        x.year();
        C.due("debtors in year 3", x.debtors(), 1);
    }

    /** II: above its own rent by as many as this one lacks, or more; in the house; one may help several. */
    private static void help() {
        String two = ";rhymes b a;speaker p pedant;says p a times 8";
        C.due("just as many as it lacks", Check.of(house(0, 0, 5, 3) + two).pays(1, 1), 1);
        C.due("more than it lacks", Check.of(house(0, 0, 5, 2) + two).pays(1, 1), 1);
        C.due("one fewer than it lacks", Check.of(house(0, 0, 5, 4) + two).pays(1, 1), 0);
        C.due("just its own rent", Check.of(house(0, 0, 8, 1) + two).pays(1, 1), 0);
        C.due("one above its own rent", Check.of(house(0, 0, 7, 1) + two).pays(1, 1), 1);
        WordHouse x = Check.of(house(0, 0, 5, 3) + two);
        x.evict(0);
        C.due("not from outside", x.pays(1, 1), 0);
        x.take(0);
        C.due("taken in again", x.pays(1, 1), 1);
        x = Check.of(house(0, 0, 0, 4, 0) + ";rhymes a b;rhymes b c;speaker p pedant;says p a times 2;says p c times 3");
        C.due("two do not help together", x.pays(1, 1), 0);
        x = Check.of(house(0, 0, 0, 2, 2) + ";rhymes a b;rhymes b c;speaker p pedant;says p a times 9");
        C.due("one that is helped", x.pays(1, 1), 1);
        C.due("helps nobody", x.pays(2, 1), 0);
        x = Check.of(house(0, 0, 0, 3, 3, 3, 4) + ";rhymes a b;rhymes a c;rhymes d a;rhymes e a;speaker p pedant;says p a times 3");
        C.due("one helps several, each by all it has", x.debtors(), 16);
        // The helper loses its MEANING in that year, but all is judged ahead of who goes.
        x = Check.of(house(0, 0, 1, 0, 1) + ";means b a;rhymes b c;speaker p pedant;says p b times 1");
        C.due("helped by one that goes this year", x.after(1), 4);
        C.due("but not the next", x.after(2), 0);
    }

    /** II: who is BEHIND by more than the grace. */
    private static void grace() {
        for (int grace = 0; grace <= 3; grace++) {
            WordHouse x = Check.of(house(grace, 0, 1));
            C.due("out first behind", x.outIn(0), grace + 1);
            C.due("empty first behind", x.emptyIn(), grace + 1);
            C.due("in behind the grace", x.after(grace), 1);
            C.due("out behind one more", x.after(grace + 1), 0);
            for (int y = 1; y <= grace; y++) {
                C.due("year " + y + " of grace " + grace, x.year(), 0);
                C.due("behind by " + y, x.entry(0, 2), y);
            }
            C.due("one year more", x.year(), 1);
            C.due("behind no more", x.entry(0, 2), 0);
            C.due("another year", x.year(), 0);
        }
        // Who pays is behind by 0: a sailor's word is never behind by more than 1.
        WordHouse x = Check.of(house(1, 0, 2) + ";speaker p sailor;says p a times 1");
        for (int y = 1; y <= 6; y++) {
            x.year();
            C.due("behind in year " + y, x.entry(0, 2), y & 1);
        }
        C.due("never out", x.outIn(0), -2);
        C.due("grace 0", Check.of(house(0, 0, 2) + ";speaker p sailor;says p a times 1").outIn(0), 1);
        // Evicted and taken in: behind by 0.
        x = Check.of(house(3, 0, 1));
        for (int y = 0; y < 3; y++) x.year();
        C.due("behind by the grace", x.entry(0, 2), 3);
        C.due("out in the next", x.outIn(0), 1);
        x.evict(0);
        C.due("out: 0", x.entry(0, 2), 0);
        x.year();
        x.take(0);
        C.due("taken in: 0", x.entry(0, 2), 0);
        C.due("out in four", x.outIn(0), 4);
        // Each of eight: behind, and out at once; behind, and evicted; behind, and taken in again.
        x = Check.of(house(1, 0, 1, 1, 1, 1, 1, 1, 1, 1));
        x.year();
        for (int e = 0; e < 8; e++) C.due("each of eight is behind " + e, x.entry(e, 2), 1);
        x.image();
        C.due("all eight go", x.year(), 255);
        for (int e = 0; e < 8; e++) C.due("out of eight: 0 " + e, x.entry(e, 2), 0);
        x.back(0);
        for (int e = 0; e < 8; e++) {
            C.due("as by the image " + e, x.entry(e, 2), 1);
            x.evict(e);
            C.due("evicted of eight: 0 " + e, x.entry(e, 2), 0);
            x.take(e);
            C.due("taken in of eight: 0 " + e, x.entry(e, 2), 0);
        }
        C.due("two years for each", x.year() + 1000 * x.year(), 255000);
        // One year that is paid, and all the grace is there again.
        x = Check.of(house(3, 0, 1));
        for (int y = 0; y < 3; y++) x.year();
        x.say(0, 1);
        x.year();
        C.due("paid", x.entry(0, 2), 0);
        x = Check.of(house(3, 0, 1) + ";speaker p child;says p a times 4");
        C.due("behind since year 5", x.outIn(0), 8);
    }

    /** II: then, over and over, who has a MEANING told, but none of which all are in the house. */
    private static void goingOut() {
        String up = "";
        String down = "";
        for (char e = 'b'; e <= 'h'; e++) {
            up += ";means " + e + " " + (char) (e - 1);
            down += ";means " + (char) (e - 1) + " " + e;
        }
        WordHouse x = Check.of(house(0, 0, 1, 0, 0, 0, 0, 0, 0, 0) + up);
        C.due("a chain of eight, from the first", x.year(), 255);
        x = Check.of(house(0, 0, 0, 0, 0, 0, 0, 0, 0, 1) + down);
        C.due("a chain of eight, from the last", x.year(), 255);
        x = Check.of(house(3, 0, 1, 0) + ";means b a");
        C.due("no grace for those", x.after(3), 3);
        C.due("they go with it", x.after(4), 0);
        x = Check.of(house(0, 0, 1, 0, 0) + ";means c a;means c b");
        C.due("one meaning is left", x.year(), 1);
        x = Check.of(house(0, 0, 1, 1, 0) + ";means c a;means c b");
        C.due("none is left", x.year(), 7);
        x = Check.of(house(0, 0, 1, 0, 0) + ";means c a,b");
        C.due("all entries of it must be in", x.year(), 5);
        x = Check.of(house(0, 0, 0, 0) + ";means a b;means b a");
        C.due("a ring stays", x.after(60), 3);
        x = Check.of(house(0, 0, 0, 0, 0, 1) + ";means a b,d;means b c;means c a");
        C.due("a ring goes with one", x.year(), 15);
    }

    /** Promises 14 to 16. */
    private static void yearsAhead() {
        // Each link stays four years longer than what the helper of its link rests on.
        WordHouse x = Check.of(house(3, 0, 1, 0, 1, 0, 1, 0, 1, 0) + ";means b a;rhymes b c;means d c;rhymes d e;means f e;"
            + "rhymes f g;means h g;speaker p child;speaker q pedant;says p a times 40;says q b times 1;says q d times 1;says q f times 1");
        int[] out = {44, 44, 48, 48, 52, 52, 56, 56};
        int[] in = {255, 252, 240, 192, 0};
        for (int e = 0; e < 8; e++) C.due("out first " + e, x.outIn(e), out[e]);
        for (int k = 0; k < 5; k++) {
            C.due("after " + (40 + 4 * k), x.after(40 + 4 * k), in[k]);
            C.due("after " + (43 + 4 * k), x.after(43 + 4 * k), in[k]);
        }
        C.due("empty first", x.emptyIn(), 56);
        C.due("after 55", x.after(55), 192);
        C.due("after 56", x.after(56), 0);
        x.year();
        C.due("out first, a year on", x.outIn(0), 43);
        C.due("empty first, a year on", x.emptyIn(), 55);
        x.evict(0);
        C.due("out now", x.outIn(0), 0);
        C.due("out with it", x.outIn(1), 0);
        C.due("c is helped no more", x.outIn(2), 4);
        x = Check.of(house(0, 0, 0, 1));
        C.due("one stays", x.emptyIn(), -2);
        C.due("one goes", x.outIn(1), 1);
        C.due("one never does", x.outIn(0), -2);
        x.evict(0);
        C.due("now empty in", x.emptyIn(), 1);
        x.evict(1);
        C.due("it is empty", x.emptyIn(), 0);
    }

    /** Promises 17 and 18. */
    private static void pillars() {
        WordHouse x = Check.of(house(0, 0, 0, 0, 0, 0, 0, 0, 0, 0) + ";means a h;means b h;means c h;means d h;means e h;"
            + "means f h;means g h");
        C.due("the last one", x.pillar(), 7);
        C.due("all go with it", x.goWith(7), 255);
        C.due("none with another", x.goWith(0), 1);
        x.evict(7);
        C.due("the empty house", x.pillar(), -2);
        x = Check.of(house(0, 0, 0, 0, 0, 0) + ";means b a;means d c");
        C.due("the first of like ones", x.pillar(), 0);
        x.evict(1);
        C.due("then the other", x.pillar(), 2);
        x.evict(3);
        C.due("none goes with any: the first", x.pillar(), 0);
        x.evict(0);
        C.due("the only one", x.pillar(), 2);
        C.due("goWith of the only one", x.goWith(2), 4);
    }

    /** III: KEEP 0 .. 99. */
    private static void keepBounds() {
        C.due("pays anyway", Check.of(house(0, 0, 0)).keep(0), 0);
        C.due("the fewest", Check.of(house(0, 0, 1)).keep(0), 1);
        C.due("its rent", Check.of(house(0, 0, 60)).keep(0), 60);
        // It must help what it rests on, and so be said its own rent and the other's.
        C.due("98", Check.of(house(0, 0, 60, 38) + ";means b a;rhymes a b").keep(1), 98);
        C.due("99", Check.of(house(0, 0, 60, 39) + ";means b a;rhymes a b").keep(1), 99);
        C.due("100", Check.of(house(0, 0, 60, 40) + ";means b a;rhymes a b").keep(1), -2);
        C.due("by none", Check.of(house(0, 0, 1, 0) + ";means b a").keep(1), -2);
        C.due("by none though it pays", Check.of(house(0, 0, 1, 0) + ";means b a;speaker p pedant;says p b times 40").keep(1), -2);
        WordHouse x = Check.of(house(0, 0, 60, 40) + ";means b a;rhymes a b");
        x.say(1, 1);
        C.due("beside what is said: 99", x.keep(1), 99);
        x.say(1, 20);
        C.due("beside what is said: 79", x.keep(1), 79);
        x = Check.of(house(0, 0, 60, 60, 0) + ";means b a;rhymes a b;speaker p pedant;says p b times 40");
        C.due("beside what speakers say", x.keep(1), 80);
        x = Check.of(house(0, 0, 60) + ";speaker p sailor;says p a times 40");
        C.due("in odd years nobody says it", x.keep(0), 60);
        x = Check.of(house(1, 0, 60) + ";speaker p sailor;says p a times 29");
        C.due("58 in even years: two more", x.keep(0), 2);
        x = Check.of(house(1, 0, 60) + ";speaker p sailor;says p a times 30");
        C.due("60 in even years: none", x.keep(0), 0);
        // What keeps another is no help for one's own rent, but for one's meaning.
        x = Check.of(house(0, 0, 3, 0) + ";means b a;rhymes a b");
        C.due("it helps what it rests on", x.keep(1), 3);
    }

    /** III: behind the next 20 YEARS. */
    private static void keepYears() {
        for (int grace = 0; grace <= 3; grace++) {
            String text = house(grace, 0, 1) + ";speaker p child;says p a times ";
            C.due("out in the 20th year, grace " + grace, Check.of(text + (19 - grace)).keep(0), 1);
            C.due("out in the 21st year, grace " + grace, Check.of(text + (20 - grace)).keep(0), 0);
            WordHouse x = Check.of(text + (20 - grace));
            C.due("behind how many years", x.outIn(0), 21);
            x.year();
            C.due("the next 20 from year 2 on", x.keep(0), 1);
            x.undo();
            C.due("the year undone", x.keep(0), 0);
        }
        // In the 20th year a child of 19 fewer: what lacks then, is what must be said.
        WordHouse x = Check.of(house(0, 0, 30) + ";speaker p child;says p a times 40");
        C.due("21 of 30 in the 20th year", x.keep(0), 9);
        x.year();
        C.due("20 of 30 in the 21st", x.keep(0), 10);
        x = Check.of(house(3, 0, 30) + ";speaker p child;says p a times 40");
        C.due("24 of 30 in the 17th year", x.keep(0), 6);
        // How far one is behind counts.
        x = Check.of(house(1, 0, 5));
        C.due("5", x.keep(0), 5);
        x.year();
        C.due("still 5", x.keep(0), 5);
    }

    /** Promise 20: for which KEEP is most, of those that have one, the first such. */
    private static void dearest() {
        C.due("the first of like ones", Check.of(house(0, 0, 7, 7, 7)).dearest(), 0);
        C.due("the most", Check.of(house(0, 0, 7, 9, 8)).dearest(), 1);
        C.due("the last", Check.of(house(0, 0, 0, 0, 0, 0, 0, 0, 0, 1)).dearest(), 7);
        C.due("KEEP 0 is one", Check.of(house(0, 0, 0, 0)).dearest(), 0);
        C.due("those without one do not count", Check.of(house(0, 0, 1, 60) + ";means b a").dearest(), 0);
        C.due("KEEP 0 against none", Check.of(house(0, 0, 1, 1, 0) + ";means a b;means b a").dearest(), 2);
        C.due("there is none", Check.of(house(0, 0, 1, 1) + ";means a b;means b a").dearest(), -2);
        WordHouse x = Check.of(house(0, 0, 9, 8));
        x.evict(0);
        C.due("in the house", x.dearest(), 1);
        x.evict(1);
        C.due("the empty house", x.dearest(), -2);
    }

    private static String everyoneByAllOthers() {
        StringBuilder text = new StringBuilder(house(0, 0, 0, 0, 0, 0, 0, 0, 0, 0));
        for (char e = 'a'; e <= 'h'; e++) {
            text.append(";means ").append(e).append(' ');
            for (char by = 'a'; by <= 'h'; by++) {
                if (by != e) text.append(by).append(',');
            }
            text.setLength(text.length() - 1);
        }
        return text.toString();
    }

    private static String circle() {
        StringBuilder text = new StringBuilder(house(0, 0, 0, 0, 0, 0, 0, 0, 0, 0));
        for (int e = 0; e < 8; e++) text.append(";means ").append((char) ('a' + e)).append(' ').append((char) ('a' + (e + 1) % 8));
        return text.toString();
    }

    /** Eight entries, each explained by the one ahead of it (or behind it), but one end. */
    private static String chain(boolean ahead) {
        String text = house(0, 0, 0, 0, 0, 0, 0, 0, 0, 0);
        for (char e = 'b'; e <= 'h'; e++) {
            char before = (char) (e - 1);
            text += ahead ? ";means " + e + " " + before : ";means " + before + " " + e;
        }
        return text;
    }

    /** III: RINGS. */
    private static void rings() {
        C.due("no meanings, no rings", Check.of(house(0, 0, 0, 0)).rings(), 0);
        C.due("a circle of eight", Check.of(circle()).rings(), 255);
        C.due("all eight of a chain are grounded", Check.of(chain(true)).rings(), 0);
        C.due("and from its end", Check.of(chain(false)).rings(), 0);
        C.due("a circle of two", Check.of(house(0, 0, 0, 0) + ";means a b;means b a").rings(), 3);
        C.due("what rests on a circle is no better", Check.of(house(0, 0, 0, 0, 0, 0) + ";means a b;means b a;means c a,d").rings(), 7);
        WordHouse x = Check.of(house(0, 0, 0, 0, 0) + ";means a b;means b a;means b c");
        C.due("a way out of it", x.rings(), 0);
        x.evict(2);
        C.due("the way out is out", x.rings(), 3);
        x.take(2);
        C.due("it is in again", x.rings(), 0);
        x = Check.of(circle());
        x.evict(3);
        C.due("empty", x.rings(), 0);
    }

    /** III: POINT, the fewest; of like ones the least bits. */
    private static void point() {
        C.due("none needed", Check.of(house(0, 0, 0, 0) + ";means b a").point(), 0);
        C.due("none needed by a chain of eight", Check.of(chain(true)).point(), 0);
        C.due("nor from its end", Check.of(chain(false)).point(), 0);
        C.due("one of eight", Check.of(circle()).point(), 1);
        C.due("all but one", Check.of(everyoneByAllOthers()).point(), 127);
        C.due("not the first one", Check.of(house(0, 0, 0, 0, 0) + ";means a b;means b c;means c b").point(), 2);
        C.due("fewer ahead of least", Check.of(house(0, 0, 0, 0, 0, 0) + ";means a d;means b d;means c d;means d a,b,c").point(), 8);
        C.due("one of each of four", Check.of(house(0, 0, 0, 0, 0, 0, 0, 0, 0, 0) + ";means a b;means b a;means c d;means d c;"
            + "means e f;means f e;means g h;means h g").point(), 0b01010101);
        WordHouse x = Check.of(house(0, 0, 0, 0, 0, 0) + ";means a b;means b a;means c d;means d c");
        x.evict(0);
        C.due("of the house alone", x.point(), 4);
        x.evict(2);
        C.due("empty", x.point(), 0);
    }

    /** Promise 23. */
    private static void depth() {
        WordHouse x = Check.of(chain(true));
        for (int e = 0; e < 8; e++) C.due("depth " + e, x.depth(e), e);
        x = Check.of(chain(false));
        for (int e = 0; e < 8; e++) C.due("depth downwards " + e, x.depth(e), 7 - e);
        x = Check.of(house(0, 0, 0, 0, 0, 0) + ";means b a;means c b;means d c;means d a");
        C.due("by that by which it is least", x.depth(3), 1);
        x = Check.of(house(0, 0, 0, 0, 0, 0) + ";means b a;means c b;means d a,c");
        C.due("1 more than the deepest", x.depth(3), 3);
        x = Check.of(house(0, 0, 0, 0, 0, 0) + ";means b a;means c b;means d b,c");
        C.due("by those one and two deep", x.depth(3), 3);
        x = Check.of(circle());
        C.due("not grounded", x.depth(7), -2);
        x = Check.of(house(0, 0, 0, 0) + ";means b a");
        x.evict(1);
        C.due("out", x.depth(1), -2);
        x.evict(0);
        C.due("out, without a meaning", x.depth(0), -2);
        // By an out one nothing is grounded; the other meaning is deeper.
        x = Check.of(house(0, 0, 0, 0, 0, 0) + ";means b a;means c b;means c d");
        C.due("by d", x.depth(2), 1);
        x.evict(3);
        C.due("without d", x.depth(2), 2);
    }

    /** III: FELL, the fewest; of like ones the least bits. */
    private static void fell() {
        C.due("each by itself", Check.of(house(0, 0, 0, 0, 0, 0, 0, 0, 0, 0)).fell(), 255);
        C.due("one of a circle", Check.of(circle()).fell(), 1);
        C.due("the first of a chain", Check.of(chain(true)).fell(), 1);
        C.due("the last of one the other way", Check.of(chain(false)).fell(), 128);
        C.due("one of all by all", Check.of(everyoneByAllOthers()).fell(), 1);
        C.due("not the first one", Check.of(house(0, 0, 0, 0) + ";means a b").fell(), 2);
        C.due("the last one", Check.of(house(0, 0, 0, 0, 0, 0, 0, 0, 0, 0) + ";means a h;means b h;means c h;means d h;means e h;"
            + "means f h;means g h").fell(), 128);
        C.due("both meanings must go", Check.of(house(0, 0, 0, 0, 0) + ";means c a;means c b").fell(), 3);
        C.due("a ring with two ways", Check.of(house(0, 0, 0, 0, 0) + ";means a b;means a c;means b a;means c a").fell(), 1);
        WordHouse x = Check.of(house(0, 0, 0, 0, 0));
        x.evict(1);
        C.due("of the house alone", x.fell(), 5);
        x.evict(0);
        C.due("the only one", x.fell(), 4);
        x.evict(2);
        C.due("empty", x.fell(), 0);
    }

    /** Promises 25 and 26. */
    private static void roots() {
        WordHouse x = Check.of(circle());
        for (int e = 0; e < 8; e++) {
            C.due("through all eight " + e, x.roots(e), 255);
            C.due("through itself " + e, x.circular(e), 1);
        }
        String down = "";
        for (char e = 'a'; e <= 'g'; e++) down += ";means " + e + " " + (char) (e + 1);
        x = Check.of(house(0, 0, 0, 0, 0, 0, 0, 0, 0, 0) + down);
        x.evict(7);
        for (int e = 0; e < 8; e++) {
            C.due("those behind it, though out " + e, x.roots(e), 255 & -1 << e + 1);
            C.due("not through itself " + e, x.circular(e), 0);
        }
        x = Check.of(house(0, 0, 0, 0, 0) + ";means a b;means b c;means c b");
        C.due("on a ring", x.roots(0), 6);
        C.due("on a ring is not in it", x.circular(0), 0);
        C.due("in it", x.circular(1), 1);
        x = Check.of(house(0, 0, 0, 0, 0) + ";means a b;means a c;means c a");
        C.due("by any meaning", x.circular(0), 1);
        x = Check.of(house(0, 0, 0, 0, 0) + ";means a b;means a b,c;means b c");
        C.due("told in both meanings", x.roots(0), 6);
        C.due("explained by c", x.entry(2, 6), 3);
        C.due("explained by b", x.entry(1, 6), 1);
        C.due("explained by a", x.entry(0, 6), 0);
    }

    /** III: APART; promises 27 and 28. */
    private static void apart() {
        WordHouse x = Check.of(house(0, 0, 0, 0, 0, 0, 0, 0, 0, 0) + ";means a b,c,d,e;means b a,f,g,h;means c a,b,d,e,f,g,h");
        C.due("the furthest", x.apart(0, 1), 8);
        C.due("the other way", x.apart(1, 0), 8);
        C.due("itself", x.apart(0, 0), 0);
        C.due("an empty one", x.apart(2, 3), 7);
        C.due("an empty one, the other way", x.apart(7, 2), 7);
        C.due("two empty ones", x.apart(6, 7), 0);
        C.due("twins of empty ones", x.twins(), 34);
        x = Check.of(house(0, 0, 0, 0, 0, 0, 0, 0, 0, 0) + ";means a b;means b c;means c d;means d e;means e f;means f g;"
            + "means g a;means h a");
        C.due("the last two", x.twins(), 67);
        x = Check.of(house(0, 0, 0, 0, 0, 0) + ";means a b,c;means a d;means b a,c;means b a,c,d;means c d");
        C.due("of all their meanings", x.apart(0, 2), 0);
        C.due("of all their meanings, none alike", x.apart(0, 1), 2);
        C.due("one told is no empty one besides", x.apart(1, 3), 2);
        C.due("the least of all", x.twins(), 2);
        C.due("of two", Check.of(house(0, 0, 0, 0)).twins(), 1);
        C.due("of two that are far", Check.of(house(0, 0, 0, 0) + ";means a b;means b a").twins(), 1);
        C.due("of one", Check.of(house(0, 0, 0)).twins(), -2);
        x = Check.of(house(0, 0, 0, 0, 0));
        x.evict(0);
        x.evict(1);
        C.due("out ones, too", x.twins(), 1);
    }

    /** Promises 29 and 30. */
    private static void rhymes() {
        WordHouse x = Check.of(house(0, 0, 0, 0, 0, 0, 0, 0, 0, 0) + ";rhymes a b;rhymes b c;rhymes c d;rhymes d e;rhymes e f;rhymes f g");
        for (int e = 0; e < 7; e++) C.due("chime to " + e, x.chime(0, e), e);
        C.due("the longest, back", x.chime(6, 0), 6);
        C.due("to one that rhymes with none", x.chime(0, 7), -2);
        C.due("that one with itself", x.chime(7, 7), 0);
        C.due("a family and one", x.families(), 2);
        for (int e = 1; e < 7; e++) x.evict(e);
        C.due("through out ones", x.chime(0, 6), 6);
        C.due("of out ones", x.families(), 2);
        C.due("each by itself", Check.of(house(0, 0, 0, 0, 0, 0, 0, 0, 0, 0)).families(), 8);
        C.due("one family of seven", Check.of(house(0, 0, 0, 0, 0, 0, 0, 0, 0) + ";rhymes a g;rhymes b g;rhymes c g;rhymes d g;"
            + "rhymes e g;rhymes f g").families(), 1);
        C.due("one of one", Check.of(house(0, 0, 0)).families(), 1);
        C.due("pairs", Check.of(house(0, 0, 0, 0, 0, 0, 0, 0, 0) + ";rhymes f g;rhymes b c;rhymes e d").families(), 4);
        C.due("through a later one", Check.of(house(0, 0, 0, 0, 0, 0) + ";rhymes b d;rhymes c d").families(), 2);
        x = Check.of(house(0, 0, 0, 0, 0, 0) + ";rhymes a b;rhymes b c;rhymes c d;rhymes d a");
        C.due("the shorter way round", x.chime(0, 3), 1);
        C.due("both ways alike", x.chime(0, 2), 2);
    }

    /** III: FITS: from the beginning on, nothing SAID, in just that year. */
    private static void fits() {
        for (int year = 1; year <= 12; year++) {
            String text = house(0, 0, 1) + ";speaker p child;says p a times ";
            String left = ";left a year " + year;
            if (year > 1) C.due("just in year " + year, Check.of(text + (year - 1) + left).fits(), 1);
            C.due("a year later than " + year, Check.of(text + year + left).fits(), 0);
            if (year > 2) C.due("a year ahead of " + year, Check.of(text + (year - 2) + left).fits(), 0);
        }
        C.due("in year 1", Check.of(house(0, 0, 1) + ";left a year 1").fits(), 1);
        C.due("never", Check.of(house(0, 0, 0) + ";left a year 12").fits(), 0);
        C.due("by its meaning", Check.of(house(0, 0, 1, 0) + ";means b a;left b year 1").fits(), 1);
        C.due("who isn't told may leave", Check.of(house(0, 0, 1, 0)).fits(), 1);
        C.due("each of those told", Check.of(house(0, 0, 1, 0) + ";left a year 1;left b year 1").fits(), 0);
        WordHouse x = Check.of(house(0, 0, 1) + ";left a year 1");
        x.say(0, 20);
        x.year();
        x.moodyYear();
        C.due("from the beginning on, nothing said", x.fits(), 1);
        C.due("nor for judge", x.judge(), -2);
        x.evict(0);
        C.due("all in at the beginning", x.fits(), 1);
        // The other so many times: 0 is none at all, also for a child and a sailor.
        x = Check.of(house(0, 0, 1) + ";speaker p child;says p a times 40;unsure p a 0;left a year 1");
        C.due("0 times", x.fitAt(0), 1);
        x = Check.of(house(1, 0, 60) + ";speaker p sailor;says p a times 29;unsure p a 30;left a year 2");
        C.due("29 times as told", x.fitAt(0), 0);
        C.due("not 30 times", x.fits(), 1);
        x = Check.of(house(1, 0, 60) + ";speaker p sailor;says p a times 30;unsure p a 29;left a year 2");
        C.due("29 times by the other", x.fitAt(0), 1);
        x = Check.of(house(0, 0, 1) + ";speaker p pedant;says p a times 5;unsure p a 5");
        C.due("the same so many times: two sets", x.fits(), 2);
        C.due("in some", x.could(), 1);
        C.due("not in all", x.surely(), 0);
    }

    /** III: ASK: at most fewest are left, the first such. */
    private static void asking() {
        String four = house(0, 0, 4) + ";speaker p pedant;speaker q pedant;speaker r pedant;speaker s pedant;says p a times 1;"
            + "says q a times 1;says r a times 1;says s a times 1;unsure p a 0;unsure q a 0;unsure r a 0;unsure s a 0";
        WordHouse x = Check.of(four);
        C.due("all sixteen", x.fits(), 16);
        C.due("the first of like ones", x.ask(), 0);
        C.due("half are left", x.askLeaves(), 8);
        x = Check.of(four + ";left a year 1");
        C.due("all but the empty set", x.fits(), 15);
        C.due("the first set", x.fitAt(0), 1);
        C.due("the last set", x.fitAt(14), 15);
        C.due("the first", x.ask(), 0);
        C.due("eight are left at most", x.askLeaves(), 8);
        // Only the last tells anything.
        x = Check.of(house(0, 0, 1, 0) + ";speaker p pedant;speaker q pedant;says p a times 1;says p b times 1;says q b times 1;"
            + "unsure p a 0;unsure p b 2;left a year 1");
        C.due("a must be 0", x.surely(), 1);
        C.due("two are left", x.fits(), 2);
        C.due("of b", x.ask(), 1);
        C.due("one is left", x.askLeaves(), 1);
        x = Check.of(house(0, 0, 1) + ";speaker p pedant;says p a times 1;unsure p a 0;left a year 1");
        C.due("of the only one, though it is sure", x.ask(), 0);
        C.due("it is left", x.askLeaves(), 1);
    }

    /** Promises 31 to 36 by sets that can be counted by hand. */
    private static void sets() {
        String two = ";speaker p pedant;speaker q pedant;says p a times 1;says q a times 1";
        // Of 2 there is enough by 1 and 1, 0 and 2, 1 and 2, but not by 0 and 1.
        WordHouse x = Check.of(house(0, 0, 2) + two + ";unsure p a 0;unsure q a 2;left a year 1");
        C.due("only one set", x.fits(), 1);
        C.due("it is p's other", x.fitAt(0), 1);
        C.due("p's could be", x.could(), 1);
        x = Check.of(house(0, 0, 1) + two + ";unsure p a 0;unsure q a 0;left a year 1");
        C.due("only both", x.fitAt(0), 3);
        C.due("surely both", x.surely(), 3);
        C.due("both could be", x.could(), 3);
        String three = ";speaker p pedant;speaker q pedant;speaker r pedant;says p a times 1;says q a times 1;says r a times 1";
        // Neither p nor q by 3: then r must be 0.
        x = Check.of(house(0, 0, 3) + three + ";unsure p a 3;unsure q a 3;unsure r a 0;left a year 1");
        C.due("r's other alone", x.fitAt(0), 4);
        C.due("no more", x.fits(), 1);
        C.due("surely r's", x.surely(), 4);
        // Below 3: p 1 with any but 1 and 1 (three sets), p 2 with 0 and 0 (one set).
        x = Check.of(house(0, 0, 3) + three + ";unsure p a 2;unsure q a 0;unsure r a 0;left a year 1");
        C.due("four sets", x.fits(), 4);
        int[] four = {2, 4, 6, 7};
        for (int i = 0; i < 4; i++) C.due("set " + i, x.fitAt(i), four[i]);
        C.due("each leaves three at most: the first", x.ask(), 0);
        C.due("three are left at most", x.askLeaves(), 3);
        C.due("all could be", x.could(), 7);
        C.due("none in all", x.surely(), 0);
        x = Check.of(house(0, 0, 3, 1) + three + ";says p b times 1;unsure p b 2;unsure p a 2;unsure q a 0;unsure r a 0;left a year 1");
        C.due("eight sets", x.fits(), 8);
        C.due("b's halves them, the first of all", x.ask(), 0);
        C.due("four are left", x.askLeaves(), 4);
        x = Check.of(house(0, 0, 1, 1) + ";speaker p pedant;says p a times 1;says p b times 1;unsure p a 0;unsure p b 0;left b year 1");
        C.due("a's or not", x.fits(), 2);
        C.due("b's alone", x.fitAt(0), 2);
        C.due("both", x.fitAt(1), 3);
        C.due("both could be", x.could(), 3);
        C.due("b's surely", x.surely(), 2);
        C.due("of a's to ask", x.ask(), 0);
        C.due("one of two is left", x.askLeaves(), 1);
        // One of both by 3 is enough until year 2, both until year 3, none until year 1.
        x = Check.of(house(0, 0, 2) + ";speaker p child;speaker q child;says p a times 1;says q a times 1;unsure p a 3;unsure q a 3;"
            + "left a year 3");
        C.due("one or the other", x.fits(), 2);
        C.due("p's", x.fitAt(0), 1);
        C.due("q's", x.fitAt(1), 2);
        C.due("each could be, though none has both", x.could(), 3);
        C.due("none surely", x.surely(), 0);
        C.due("one is left", x.askLeaves(), 1);
        // By q's 3 it is enough in year 2, too; else it is behind from then on.
        x = Check.of(house(1, 0, 2) + ";speaker p child;speaker q child;says p a times 2;says q a times 1;unsure p a 1;unsure q a 3;"
            + "left a year 3");
        C.due("two sets", x.fits(), 2);
        C.due("as told", x.fitAt(0), 0);
        C.due("by p's other", x.fitAt(1), 1);
        C.due("p's could be", x.could(), 1);
        C.due("q's tells nothing", x.ask(), 0);
    }

    /**
     * Promises 31 to 36 by each set of four. As told, a word goes in year 2, by its other saying in year 1: what is told
     * to have left then tells of each saying whether it is in the set.
     */
    private static void eachSetOfFour() {
        for (int set = 0; set < 16; set++) {
            WordHouse x = ofFour(set, 15 & ~set);
            C.due("just one set, " + set, x.fits(), 1);
            C.due("it is set " + set, x.fitAt(0), set);
            C.due("could, of set " + set, x.could(), set);
            C.due("surely, of set " + set, x.surely(), set);
            C.due("ask, of set " + set, x.ask(), 0);
            C.due("askLeaves, of set " + set, x.askLeaves(), 1);
            x = ofFour(set, 0);
            C.due("sets with all of " + set, x.fits(), 16 >> Integer.bitCount(set));
            C.due("the first with all of " + set, x.fitAt(0), set);
            C.due("the last with all of " + set, x.fitAt(x.fits() - 1), 15);
            C.due("could, with all of " + set, x.could(), 15);
            C.due("surely, with all of " + set, x.surely(), set);
            C.due("ask, with all of " + set, x.ask(), set == 15 ? 0 : Integer.numberOfTrailingZeros(~set));
            C.due("askLeaves, with all of " + set, x.askLeaves(), Math.max(1, x.fits() / 2));
            x = ofFour(0, 15 & ~set);
            C.due("sets within " + set, x.fits(), 1 << Integer.bitCount(set));
            C.due("the last within " + set, x.fitAt(x.fits() - 1), set);
            C.due("could, within " + set, x.could(), set);
            C.due("surely, within " + set, x.surely(), 0);
        }
    }

    private static WordHouse ofFour(int others, int asTold) {
        StringBuilder text = new StringBuilder(house(0, 0, 1, 1, 1, 1)).append(";speaker p child");
        for (int e = 0; e < 4; e++) {
            char name = (char) ('a' + e);
            text.append(";says p ").append(name).append(" times 1;unsure p ").append(name).append(" 0");
            if ((others >> e & 1) == 1) text.append(";left ").append(name).append(" year 1");
            if ((asTold >> e & 1) == 1) text.append(";left ").append(name).append(" year 2");
        }
        return Check.of(text.toString());
    }

    /** Promise 37: the first entry, by numbers. */
    private static void judging() {
        C.due("just so", Check.of(house(0, 0, 1, 1) + ";left b year 1;left a year 1").judge(), -2);
        C.due("the first by numbers", Check.of(house(0, 0, 0, 0) + ";left b year 1;left a year 1").judge(), 0);
        C.due("the other one", Check.of(house(0, 0, 1, 0) + ";left b year 1;left a year 1").judge(), 1);
        C.due("too late", Check.of(house(1, 0, 1) + ";left a year 1").judge(), 0);
        C.due("too early", Check.of(house(0, 0, 1) + ";left a year 12").judge(), 0);
        C.due("by sayings as told", Check.of(house(0, 0, 1) + ";speaker p pedant;says p a times 1;unsure p a 0;left a year 1").judge(), 0);
        C.due("the last of eight", Check.of(house(0, 0, 0, 0, 0, 0, 0, 0, 0, 0) + ";left h year 12").judge(), 7);
        C.due("in year 13", Check.of(house(0, 0, 1) + ";speaker p child;says p a times 12;left a year 12").judge(), 0);
        C.due("in year 12", Check.of(house(0, 0, 1) + ";speaker p child;says p a times 11;left a year 12").judge(), -2);
    }

    private static void part(String what, long upper, long lower, long wantUpper, long wantLower) {
        C.due(what + ", upper", upper, wantUpper);
        C.due(what + ", lower", lower, wantLower);
    }

    /** Promises 41 and 43: in lowest terms, 0 by 1. */
    private static void likelihoods() {
        String four = ";speaker p pedant;speaker q pedant;speaker r pedant;speaker s pedant;says p a times 1;says q a times 1;"
            + "says r a times 1;says s a times 1";
        for (int mood : new int[] {0, 1, 50, 99, 100}) {
            WordHouse x = Check.of(house(0, mood, 4) + four);
            long speaks = 100 - mood;
            long all = speaks * speaks * speaks * speaks;
            long whole = 100000000L;
            while (all % 2 == 0 && whole % 2 == 0) {
                all /= 2;
                whole /= 2;
            }
            while (all % 5 == 0 && whole % 5 == 0) {
                all /= 5;
                whole /= 5;
            }
            part("odds of all four, mood " + mood, x.odds(0, false), x.odds(0, true), all, all == 0 ? 1 : whole);
            part("stays by all four, mood " + mood, x.stays(0, false), x.stays(0, true), all, all == 0 ? 1 : whole);
        }
        WordHouse x = Check.of(house(0, 1, 4) + four);
        part("99 times itself", x.odds(0, false), x.odds(0, true), 96059601L, 100000000L);
        x = Check.of(house(0, 99, 1) + four);
        part("some of four", x.odds(0, false), x.odds(0, true), 100000000L - 96059601L, 100000000L);
        x = Check.of(house(0, 50, 0));
        part("rent 0", x.odds(0, false), x.odds(0, true), 1, 1);
        x = Check.of(house(0, 50, 1));
        part("without speakers", x.odds(0, false), x.odds(0, true), 0, 1);
        part("without speakers", x.stays(0, false), x.stays(0, true), 0, 1);
        x = Check.of(house(1, 50, 1) + ";speaker p pedant;says p a times 1");
        part("may be behind", x.stays(0, false), x.stays(0, true), 1, 1);
        part("may not pay", x.odds(0, false), x.odds(0, true), 1, 2);
        x = Check.of(house(1, 50, 1, 0) + ";means b a");
        x.year();
        part("behind by the grace", x.stays(0, false), x.stays(0, true), 0, 1);
        part("goes with it", x.stays(1, false), x.stays(1, true), 0, 1);
        part("but pays", x.odds(1, false), x.odds(1, true), 1, 1);
        x = Check.of(house(0, 50, 0) + ";speaker p child;speaker q child;speaker r child;speaker s child");
        part("who says nothing of it counts for nothing", x.odds(0, false), x.odds(0, true), 1, 1);
        x = Check.of(house(3, 50, 2, 2) + ";speaker p child;speaker q sailor;says p a times 2;says q b times 1");
        part("a child in year 1", x.odds(0, false), x.odds(0, true), 1, 2);
        part("a sailor in year 1", x.odds(1, false), x.odds(1, true), 0, 1);
        x.year();
        part("a child in year 2", x.odds(0, false), x.odds(0, true), 0, 1);
        part("a sailor in year 2", x.odds(1, false), x.odds(1, true), 1, 2);
        x.say(0, 1);
        part("a child in year 2, and said", x.odds(0, false), x.odds(0, true), 1, 2);
        x.say(0, 1);
        part("said often enough", x.odds(0, false), x.odds(0, true), 1, 1);
    }

    /** Promise 42. */
    private static void means() {
        String text = ";speaker p pedant;speaker q pedant;says p a times 3;says q a times 4";
        WordHouse x = Check.of(house(0, 0, 4) + text);
        part("mood 0", x.mean(0, false), x.mean(0, true), 7, 1);
        x = Check.of(house(0, 100, 4) + text);
        part("mood 100", x.mean(0, false), x.mean(0, true), 0, 1);
        x.say(0, 5);
        part("mood 100, but said", x.mean(0, false), x.mean(0, true), 5, 1);
        x = Check.of(house(0, 1, 4) + text);
        part("mood 1", x.mean(0, false), x.mean(0, true), 693, 100);
        x = Check.of(house(0, 50, 4) + text);
        part("mood 50", x.mean(0, false), x.mean(0, true), 7, 2);
        x.say(0, 5);
        part("mood 50, and said", x.mean(0, false), x.mean(0, true), 17, 2);
        x.undo();
        x.evict(0);
        part("an out one", x.mean(0, false), x.mean(0, true), 7, 2);
        x = Check.of(house(0, 50, 4));
        part("nobody says it", x.mean(0, false), x.mean(0, true), 0, 1);
        x = Check.of(house(3, 50, 4) + ";speaker p child;says p a times 2");
        part("the next year is the first", x.mean(0, false), x.mean(0, true), 1, 1);
        x.year();
        part("then the second", x.mean(0, false), x.mean(0, true), 1, 2);
        x.year();
        part("then the third", x.mean(0, false), x.mean(0, true), 0, 1);
    }

    private static int next(int seed) {
        return (int) ((75L * seed + 74) % 65537);
    }

    /** The least SEED whose first DRAW is that of a hundred. */
    private static int seedFor(int draw) {
        for (int seed = 0; seed < 65537; seed++) {
            if (next(seed) % 100 == draw) return seed;
        }
        throw new IllegalStateException("no seed draws " + draw);
    }

    /** III: a DRAW mod 100 below mood: he says nothing. */
    private static void draws() {
        for (int mood : new int[] {0, 1, 2, 50, 99, 100}) {
            WordHouse x = Check.of(house(0, mood, 1) + ";speaker p pedant;says p a times 1");
            for (int draw : new int[] {0, 1, 2, 49, 50, 98, 99}) {
                int stays = draw < mood ? 0 : 1;
                C.due("draw " + draw + " by mood " + mood, x.moody(seedFor(draw), 1), stays);
                C.due("first out by draw " + draw + ", mood " + mood, x.firstOut(seedFor(draw), 1), stays == 1 ? -2 : 1);
                C.due("seed", x.seed(seedFor(draw)), true);
                C.due("the year by draw " + draw + ", mood " + mood, x.moodyYear(), 1 - stays);
                x.undo();
            }
        }
        // Each by his own draw, by numbers: of two the first is silent, or the second.
        WordHouse x = Check.of(house(0, 50, 1, 1) + ";speaker p pedant;speaker q pedant;says p a times 1;says q b times 1");
        for (int seed : new int[] {0, 1, 872, 873, 65535, 65536}) {
            int first = next(seed);
            int second = next(first);
            int in = (first % 100 < 50 ? 0 : 1) | (second % 100 < 50 ? 0 : 2);
            C.due("both by seed " + seed, x.moody(seed, 1), in);
        }
    }

    /** III: SEED becomes (75 times SEED and 74) mod 65,537. */
    private static void seedRound() {
        int toNought = -1;
        for (int seed = 0; seed < 65537; seed++) {
            if (next(seed) == 0) toNought = seed;
        }
        int[] from = {0, 872, 873, 65535, 65536, toNought};
        int[] to = {74, 65474, 12, 65461, 65536, 0};
        for (int k = 0; k < from.length; k++) {
            for (int speakers = 0; speakers <= 4; speakers++) {
                StringBuilder text = new StringBuilder(house(0, 0, 0));
                for (int p = 0; p < speakers; p++) text.append(";speaker ").append((char) ('p' + p)).append(" child");
                WordHouse x = Check.of(text.toString());
                x.seed(from[k]);
                x.moodyYear();
                int due = speakers == 0 ? from[k] : to[k];
                for (int p = 1; p < speakers; p++) due = next(due);
                C.due("seed " + from[k] + " behind " + speakers + " draws", x.size(10), due);
                x.year();
                C.due("a year without mood draws nothing", x.size(10), due);
                x.undo();
                x.undo();
                C.due("undone", x.size(10), from[k]);
            }
        }
    }

    /** Promises 44 and 45: up to 60 years; the first one in the n-th. */
    private static void moodyYears() {
        WordHouse x = Check.of(house(0, 1, 1) + ";speaker p pedant;says p a times 1");
        int in60 = -1;
        int in61 = -1;
        for (int seed = 0; seed < 65537; seed++) {
            int now = seed;
            int years = 0;
            do {
                now = next(now);
                years++;
            } while (now % 100 > 0 && years < 62);
            if (years == 60) in60 = seed;
            if (years == 61) in61 = seed;
        }
        C.due("seeds are found", in60 >= 0 && in61 >= 0, true);
        C.due("out in the 60th", x.firstOut(in60, 60), 60);
        C.due("not in 59", x.firstOut(in60, 59), -2);
        C.due("in behind 59", x.moody(in60, 59), 1);
        C.due("out behind 60", x.moody(in60, 60), 0);
        C.due("out in the 61st", x.firstOut(in61, 60), -2);
        C.due("in behind 60", x.moody(in61, 60), 1);
        C.due("they look, and leave the seed", x.size(10), 0);
        // It is the first that goes out from now on, not one that is out.
        x = Check.of(house(0, 100, 1, 0, 1) + ";speaker p pedant;says p a times 1");
        C.due("at once", x.firstOut(0, 60), 1);
        x.evict(0);
        C.due("the other at once", x.firstOut(0, 60), 1);
        x.evict(2);
        C.due("none of those that are in", x.firstOut(0, 60), -2);
        C.due("who stays", x.moody(0, 60), 2);
        // As foretold by the seed that is.
        x = Check.of(house(1, 60, 3, 2, 1) + ";rhymes a b;speaker p pedant;speaker q child;speaker r sailor;says p a times 4;"
            + "says q b times 9;says r c times 3");
        for (int seed = 0; seed <= 65536; seed += 4096) {
            x.seed(seed);
            int foretold = x.moody(seed, 3);
            for (int y = 0; y < 3; y++) x.moodyYear();
            C.due("as foretold by " + seed, x.lodgers(), foretold);
            for (int y = 0; y < 3; y++) x.undo();
            C.due("undone", x.lodgers(), 7);
            C.due("with the seed", x.size(10), seed);
        }
    }

    /** But for FITS, each unsure saying is so many times as told. */
    private static void unsureOnesAreAsTold() {
        String sure = house(0, 50, 2) + ";speaker p pedant;says p a times 2";
        for (String text : new String[] {sure, sure + ";unsure p a 0"}) {
            WordHouse x = Check.of(text);
            C.due("says", x.saysIn(0, 0, 1), 2);
            C.due("uses", x.uses(0, 1), 2);
            C.due("pays", x.pays(0, 1), 1);
            C.due("debtors", x.debtors(), 0);
            C.due("after", x.after(60), 1);
            C.due("outIn", x.outIn(0), -2);
            C.due("keep", x.keep(0), 0);
            C.due("moody, 36 being below 50", x.moody(65536, 1), 0);
            part("odds", x.odds(0, false), x.odds(0, true), 1, 2);
            part("mean", x.mean(0, false), x.mean(0, true), 1, 1);
            part("stays", x.stays(0, false), x.stays(0, true), 1, 2);
            C.due("year", x.year(), 0);
            C.due("paid", x.entry(0, 2), 0);
        }
        WordHouse x = Check.of(house(0, 0, 2) + ";speaker p pedant;says p a times 2;unsure p a 0");
        C.due("moody", x.moody(0, 60), 1);
        C.due("firstOut", x.firstOut(0, 60), -2);
        C.due("moodyYear", x.moodyYear(), 0);
        C.due("what he says, unsure or not", x.speaker(0, 1), 1);
        x = Check.of(house(0, 0, 0, 0, 0) + ";speaker p pedant;speaker q child;says p a times 2;says q b times 1;says p c times 3;"
            + "unsure p c 0");
        C.due("all he says", x.speaker(0, 1), 5);
        C.due("all the other says", x.speaker(1, 1), 2);
    }
}
