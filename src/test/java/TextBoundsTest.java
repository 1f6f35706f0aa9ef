/**
 * The bounds of THE TEXT (I of the document's terms; promises 2 to 5), each by the last that is allowed and the first
 * that isn't; and of FAULTS their order and places, and that THE HOUSE stays.
 */
public final class TextBoundsTest {
    private static final Check C = new Check();
    private static final Pair PAIR = new Pair(C);

    private static final String HEAD = "house grace 1 mood 5";
    private static final String[] KEPT = {"house", "entry", "means", "rhymes", "speaker", "says", "unsure", "left"};
    private static final String[] FREE = {"grace", "mood", "rent", "times", "year", "pedant", "child", "sailor"};

    private static final String EARLIER = "house grace 2 mood 40;entry x rent 3;entry y rent 2;entry z rent 0;means y x;"
        + "rhymes x z;speaker w child;says w x times 5;says w z times 9;unsure w x 0;left y year 4";

    public static void main(String[] args) {
        theTape();
        theFirstBytes();
        signs();
        words();
        wholes();
        lines();
        names();
        graceAndMood();
        entries();
        meanings();
        rhymes();
        speakers();
        sayings();
        unsureOnes();
        thoseThatLeft();
        allAtOnce();
        firstFromTheLeft();
        leastOfOnePlace();
        theEnd();
        faultAndWhere();
        theNewHouse();
        theThirdHouse();
        nothingOfTheTextBefore();
        C.end();
    }

    /** An object with a HOUSE, of which one is out, one was SAID, acts can be undone, and there is an IMAGE. */
    private static void liveEarlier(WordHouse x) {
        Check.house(x, EARLIER);
        x.seed(77);
        x.moodyYear();
        x.image();
        x.say(2, 7);
        x.evict(0);
        x.year();
    }

    /** The text is no HOUSE; the place of its FAULT is marked by a sign that begins no TOKEN and is taken out. */
    private static void fault(int number, String marked) {
        int place = marked.indexOf('^');
        String text = marked.substring(0, place) + marked.substring(place + 1);
        PAIR.refuses(text, TextBoundsTest::liveEarlier, x -> Check.house(x, text), -1, 4);
        WordHouse x = new WordHouse();
        C.due(text + " as the first", Check.house(x, text), -1);
        C.due(text + " has the fault", x.fault(), number);
        C.due(text + " has it at", x.where(), place);
        C.due(text + " leaves no tape", x.size(13), 0);
        C.due(text + " makes no house", x.lodgers(), -1);
    }

    private static WordHouse fine(int entries, String text) {
        WordHouse x = new WordHouse();
        C.due(text, Check.house(x, text), entries);
        C.due(text + " tells no trouble", x.trouble(), 0);
        C.due(text + " has no fault", x.fault(), 0);
        C.due(text + " has no place", x.where(), -1);
        C.due(text + " leaves no tape", x.size(13), 0);
        C.due(text + " is all in", x.lodgers(), (1 << entries) - 1);
        return x;
    }

    private static String entryLines(int n) {
        StringBuilder text = new StringBuilder();
        for (int e = 0; e < n; e++) text.append(";entry ").append((char) ('a' + e)).append(" rent 1");
        return text.toString();
    }

    private static String speakerLines(int n) {
        StringBuilder text = new StringBuilder();
        for (int p = 0; p < n; p++) text.append(";speaker ").append((char) ('p' + p)).append(" child");
        return text.toString();
    }

    private static String sayLines(int n) {
        StringBuilder text = new StringBuilder();
        for (int k = 0; k < n; k++) {
            text.append(";says ").append((char) ('p' + k / 4)).append(' ').append((char) ('a' + k % 4)).append(" times 1");
        }
        return text.toString();
    }

    /** Promise 2: none comes if there would be more than 900. */
    private static void theTape() {
        WordHouse x = new WordHouse();
        for (int k = 1; k <= 44; k++) C.due("feed " + k, x.feed(k, k, k, k, k), 20 * k);
        C.due("feed of the last twenty", x.feed(9, 9, 9, 9, 9), 900);
        C.due("feed of more", x.feed(9, 9, 9, 9, 9), -1);
        C.due("feed of more again", x.feed(9, 9, 9, 9, 9), -1);
        C.due("none came", x.size(13), 900);
        PAIR.refuses("house(901) of 900", TextBoundsTest::fullTape, y -> y.house(901), -1, 2);
        WordHouse y = new WordHouse();
        fullTape(y);
        C.due("feed behind a full tape", y.feed(1, 1, 1, 1, 1), -1);
        C.due("what was fed stands as it was", y.house(900), 2);
        C.due("the tape is empty then", y.feed(1, 1, 1, 1, 1), 20);
        // The highest byte of each number first: the letters of a name come in their order.
        y = new WordHouse();
        C.due("twenty bytes", y.feed(0x686f7573, 0x65206772, 0x61636520, 0x32206d6f, 0x6f642034), 20);
        C.due("forty bytes", y.feed(0x3b656e74, 0x72792061, 0x2072656e, 0x7420373b, 0x656e7472), 40);
        C.due("the first of them alone", y.house(35), 1);
        C.due("grace", y.size(0), 2);
        C.due("mood", y.size(1), 4);
        C.due("rent", y.entry(0, 0), 7);
    }

    private static void fullTape(WordHouse x) {
        String text = HEAD + entryLines(2);
        Check.feed(x, " ".repeat(900 - text.length()) + text);
    }

    /** Promise 3: the first n bytes; 2 for what THE TAPE doesn't have, which stays. */
    private static void theFirstBytes() {
        String text = HEAD + entryLines(2);
        for (int n : new int[] {-1, 61, Integer.MIN_VALUE, Integer.MAX_VALUE}) {
            PAIR.refuses("house(" + n + ") of 60", x -> {
                liveEarlier(x);
                Check.feed(x, text);
            }, x -> x.house(n), -1, 2);
        }
        PAIR.refuses("house(1) of none", TextBoundsTest::liveEarlier, x -> x.house(1), -1, 2);
        PAIR.refuses("house(1) of none, and no house", x -> { }, x -> x.house(1), -1, 2);
        PAIR.refuses("house(-1) of none, and no house", x -> { }, x -> x.house(-1), -1, 2);
        WordHouse x = new WordHouse();
        Check.feed(x, text);
        C.due("the tape has", x.size(13), 60);
        C.due("house of more", x.house(61), -1);
        C.due("the tape stays", x.size(13), 60);
        C.due("and is read then", x.house(text.length()), 2);
        C.due("and is empty", x.size(13), 0);
        C.due("house of none", x.house(0), -1);
        C.due("is a fault", x.trouble(), 4);
        C.due("of form", x.fault(), 1);
        C.due("at the beginning", x.where(), 0);
        Check.feed(x, " " + text);
        C.due("none of the bytes that there are", x.house(0), -1);
        C.due("is a fault of form", x.fault(), 1);
        C.due("at the beginning of none", x.where(), 0);
        C.due("they are gone", x.size(13), 0);
        Check.feed(x, text);
        C.due("one byte less: no number", x.house(text.length() - 1), -1);
        C.due("at the end", x.where(), text.length() - 1);
        C.due("what was not read is gone, too", x.size(13), 0);
        Check.feed(x, text);
        C.due("the first line alone", x.house(HEAD.length()), -1);
        C.due("lacks an entry", x.fault(), 6);
        Check.feed(x, text);
        C.due("the first two lines", x.house(HEAD.length() + 15), 1);
        // A TOKEN ends with the bytes that are read, whatever stands behind them.
        String kind = HEAD + entryLines(1) + ";speaker p child";
        Check.feed(x, kind + "ren");
        C.due("a word ends there", x.house(kind.length()), 1);
        Check.feed(x, text + "99");
        C.due("a number ends there", x.house(text.length()), 2);
        C.due("the number", x.entry(1, 0), 1);
        Check.feed(x, text + ";");
        C.due("no line behind it", x.house(text.length()), 2);
    }

    /** The first byte that begins no TOKEN. */
    private static void signs() {
        String before = HEAD + ";entry a rent 1";
        for (int sign = 0; sign < 256; sign++) {
            char c = (char) sign;
            boolean blank = sign == 32;
            boolean ofToken = c >= 'a' && c <= 'z' || c >= '0' && c <= '9' || c == ';' || c == ',';
            WordHouse x = new WordHouse();
            C.due("a text that ends with the sign " + sign, Check.house(x, before + " " + c), blank ? 1 : -1);
            C.due("fault by the sign " + sign, x.fault(), blank ? 0 : 1);
            // Behind the one TOKEN of these that goes on, the end is what is wrong.
            C.due("where by the sign " + sign, x.where(), blank ? -1 : before.length() + (c == ';' ? 2 : 1));
            x = new WordHouse();
            C.due("a text that begins with the sign " + sign, Check.house(x, c + before), blank ? 1 : -1);
            C.due("fault at the beginning by the sign " + sign, x.fault(), blank ? 0 : 1);
            C.due("where at the beginning by the sign " + sign, x.where(), blank ? -1 : 0);
            x = new WordHouse();
            boolean letter = c >= 'a' && c <= 'z';
            C.due("a name with the sign " + sign, Check.house(x, HEAD + ";entry o" + c + " rent 1"), blank || letter ? 1 : -1);
            C.due("where in a name by the sign " + sign, x.where(), blank || letter ? -1 : before.length() - 7);
            C.due("fault in a name by the sign " + sign, x.fault(), blank || letter ? 0 : 1);
            x = new WordHouse();
            boolean digit = c >= '0' && c <= '9';
            C.due("a rent with the sign " + sign, Check.house(x, HEAD + ";entry a rent 5" + c), blank || digit ? 1 : -1);
            C.due("the rent by the sign " + sign, x.entry(0, 0), blank ? 5 : digit ? 50 + c - '0' : -1);
            C.due("a sign of a token", ofToken || blank || x.fault() == 1, true);
        }
    }

    /** WORDS of 1 to 8 small letters that stand together. */
    private static void words() {
        fine(1, HEAD + ";entry a rent 1");
        fine(2, HEAD + ";entry abcdefgh rent 1;entry z rent 1;means z abcdefgh");
        fine(3, HEAD + ";entry abcdefgh rent 1;entry abcdefgi rent 1;entry bbcdefgh rent 1;means abcdefgi abcdefgh");
        fine(2, HEAD + ";entry a rent 1;entry aa rent 1;rhymes a aa");
        fine(2, HEAD + ";entry aaaaaaaa rent 1;entry aaaaaaa rent 1;rhymes aaaaaaaa aaaaaaa");
        fault(1, HEAD + ";entry ^abcdefghi rent 1");
        fault(1, HEAD + ";entry ^" + "a".repeat(300) + " rent 1");
        fault(1, HEAD + ";entry abcdefgh rent 1;means ^abcdefgha abcdefgh");
        fault(1, "^househouse grace 1 mood 5;entry a rent 1");
        fault(1, "house ^gracegrace 1 mood 5;entry a rent 1");
        fault(1, HEAD + ";^entryentry a rent 1");
        fault(1, HEAD + ";entry a ^rentrentr 1");
        fault(2, HEAD + ";entry abcdefgh rent 1;left ^abcdefg year 1");
        fault(2, HEAD + ";entry abcdefgh rent 1;left ^bcdefgh year 1");
        fault(1, HEAD + ";entry a ^b rent 1");
    }

    /** WHOLES of 1 to 3 digits that stand together. */
    private static void wholes() {
        C.due("one digit", fine(1, HEAD + ";entry a rent 7").entry(0, 0), 7);
        C.due("two digits", fine(1, HEAD + ";entry a rent 07").entry(0, 0), 7);
        C.due("three digits", fine(1, HEAD + ";entry a rent 007").entry(0, 0), 7);
        C.due("nothing but noughts", fine(1, HEAD + ";entry a rent 000").entry(0, 0), 0);
        C.due("mood of three digits", fine(1, "house grace 003 mood 100;entry a rent 060").size(1), 100);
        fault(1, HEAD + ";entry a rent ^0007");
        fault(1, HEAD + ";entry a rent ^0000");
        fault(1, HEAD + ";entry a rent ^" + "1".repeat(200));
        fault(1, "house grace ^0001 mood 5;entry a rent 1");
        fault(1, "house grace 1 mood ^0100;entry a rent 1");
        fault(1, HEAD + ";entry a rent 1 ^1");
        fault(1, HEAD + ";entry a rent^-1");
        fault(1, HEAD + ";entry a rent 1^.5");
        // What overflows an int stays too long a run.
        fault(1, HEAD + ";entry a rent ^4294967296");
        fault(1, HEAD + ";entry a rent ^18446744073709551616");
    }

    /** LINE {; LINE}; blanks part TOKENS and mean nothing else. */
    private static void lines() {
        fine(1, "house grace 1 mood 5;entry a rent 1");
        fine(1, "   house   grace   1   mood   5   ;   entry   a   rent   1   ");
        fine(1, "house grace1mood5;entry a rent1");
        fine(2, HEAD + ";entry a rent 1;entry b rent 1;speaker p child;says p a times1;unsure p a0;left b year1");
        fine(3, HEAD + entryLines(3) + ";means a b,c;means a b , c;means b a  ,  c");
        fault(1, "^;house grace 1 mood 5;entry a rent 1");
        fault(1, "house grace 1 mood 5;^;entry a rent 1");
        fault(1, "house grace 1 mood 5;entry a rent 1;^");
        fault(1, "house grace 1 mood 5;entry a rent 1; ^; ");
        fault(1, "house grace 1 mood 5^,entry a rent 1");
        fault(1, "house grace 1 mood 5 ^entry a rent 1");
        fault(1, "^housegrace 1 mood 5;entry a rent 1");
        fault(1, "^ho use grace 1 mood 5;entry a rent 1");
        fault(1, HEAD + ";entry a rent 1;left a year 1 ^2");
    }

    /** NAMES are WORDS but eight; each told once, ahead of its use. */
    private static void names() {
        for (String word : KEPT) {
            fault(1, HEAD + ";entry ^" + word + " rent 1");
            fault(1, HEAD + ";entry a rent 1;speaker ^" + word + " child");
        }
        for (String word : FREE) {
            fine(1, HEAD + ";entry " + word + " rent 1;left " + word + " year 1");
            fine(1, HEAD + ";entry a rent 1;speaker " + word + " child;says " + word + " a times 1");
        }
        String told = HEAD + entryLines(2) + ";speaker p child;says p a times 1";
        String[] places = {"means * b", "means a *", "means a b,*", "rhymes * b", "rhymes a *", "says * b times 1",
            "says p * times 1", "unsure * a 1", "unsure p * 1", "left * year 1"};
        for (String place : places) {
            fault(1, told + ";" + place.replace("*", "^left"));
            fault(1, told + ";" + place.replace("*", "^house"));
            fault(1, told + ";" + place.replace("*", "^7"));
            fault(1, told + ";" + place.replace("*", "^;"));
            fault(1, told + ";" + place.replace("*", "^,"));
            fault(2, told + ";" + place.replace("*", "^z"));
            boolean ofSpeaker = place.startsWith("says *") || place.startsWith("unsure *");
            fault(2, told + ";" + place.replace("*", ofSpeaker ? "^a" : "^p"));
            // Told, but only behind its use.
            fault(2, told + ";" + place.replace("*", "^z") + (ofSpeaker ? ";speaker z child" : ";entry z rent 1"));
        }
        fault(3, told + ";entry ^a rent 1");
        fault(3, told + ";entry ^p rent 1");
        fault(3, told + ";speaker ^p child");
        fault(3, told + ";speaker ^b child");
        fine(2, told + ";speaker q child;says q a times 1");
    }

    private static void graceAndMood() {
        for (int grace = 0; grace <= 3; grace++) {
            C.due("grace", fine(1, "house grace " + grace + " mood 5;entry a rent 1").size(0), grace);
        }
        fault(4, "house grace ^4 mood 5;entry a rent 1");
        fault(4, "house grace ^999 mood 5;entry a rent 1");
        for (int mood : new int[] {0, 1, 99, 100}) {
            C.due("mood", fine(1, "house grace 1 mood " + mood + ";entry a rent 1").size(1), mood);
        }
        fault(4, "house grace 1 mood ^101;entry a rent 1");
        fault(4, "house grace 1 mood ^999;entry a rent 1");
        fault(3, HEAD + ";^house grace 1 mood 5;entry a rent 1");
        fault(3, HEAD + ";entry a rent 1;^house");
        for (int k = 1; k < KEPT.length; k++) fault(6, "^" + KEPT[k] + " a rent 1;" + HEAD);
        for (int k = 1; k < KEPT.length; k++) fault(6, "  ^" + KEPT[k]);
    }

    private static void entries() {
        C.due("the least rent", fine(1, HEAD + ";entry a rent 0").entry(0, 0), 0);
        C.due("the highest rent", fine(1, HEAD + ";entry a rent 60").entry(0, 0), 60);
        fault(4, HEAD + ";entry a rent ^61");
        fault(4, HEAD + ";entry a rent ^999");
        for (int n = 1; n <= 8; n++) C.due("entries", fine(n, HEAD + entryLines(n)).size(2), n);
        fault(5, HEAD + entryLines(8) + ";^entry i rent 1");
        fault(5, HEAD + entryLines(8) + ";^entry");
        fault(6, HEAD + "^");
        fault(6, HEAD + ";speaker p child^");
    }

    private static void meanings() {
        String three = HEAD + entryLines(3);
        WordHouse x = fine(3, three + ";means a b;means a c");
        C.due("two meanings", x.entry(0, 4), 2);
        fine(3, three + ";means a b;means a b");
        fault(5, three + ";means a b;means a c;means ^a b,c");
        fault(5, three + ";means a b;means a b;means ^a b");
        fault(3, three + ";means a ^a");
        fault(3, three + ";means b ^b,a");
        fault(3, three + ";means a b,^a");
        fault(3, three + ";means a b,^b");
        fault(3, three + ";means a b,c,^b");
        fault(1, three + ";means a^");
        fault(1, three + ";means a ^;means b a");
        fault(1, three + ";means a b,^;means b a");
        fault(1, three + ";means a b,^");
        fault(1, three + ";means a b ^c");
        fault(1, three + ";means a ^,b");
        fault(1, three + ";means a b,^,c");
        x = fine(8, HEAD + entryLines(8) + ";means a b,c,d,e,f,g,h;means h g,f,e,d,c,b,a");
        C.due("a meaning of seven", x.meaning(0, 0), 254);
        C.due("in whatever order", x.meaning(7, 0), 127);
        fault(3, HEAD + entryLines(8) + ";means a b,c,d,e,f,g,h,^a");
        fault(3, HEAD + entryLines(8) + ";means a b,c,d,e,f,g,h,^h");
        StringBuilder twelve = new StringBuilder(HEAD + entryLines(8));
        for (char e = 'a'; e < 'g'; e++) twelve.append(";means ").append(e).append(" g;means ").append(e).append(" h");
        C.due("twelve meanings", fine(8, twelve.toString()).size(3), 12);
        fault(5, twelve + ";^means g a");
        fault(5, twelve + ";^means a g");
        fault(5, twelve + ";^means");
    }

    private static void rhymes() {
        String five = HEAD + entryLines(5);
        fault(3, five + ";rhymes a ^a");
        fault(3, five + ";rhymes a b;rhymes a ^b");
        fault(3, five + ";rhymes a b;rhymes b ^a");
        fault(1, five + ";rhymes a^");
        fault(1, five + ";rhymes a^,b");
        fault(1, five + ";rhymes a b^,c");
        String six = five + ";rhymes a b;rhymes a c;rhymes d a;rhymes a e;rhymes b c;rhymes b d";
        WordHouse x = fine(5, six);
        C.due("six rhymes", x.size(4), 6);
        C.due("in whatever order", x.entry(0, 5), 30);
        C.due("of both", x.entry(3, 5), 3);
        fault(5, six + ";^rhymes c d");
        fault(5, six + ";^rhymes a a");
    }

    private static void speakers() {
        String[] kinds = {"pedant", "child", "sailor"};
        for (int k = 0; k < 3; k++) {
            C.due("kind", fine(1, HEAD + ";entry a rent 1;speaker p " + kinds[k]).speaker(0, 0), k);
        }
        fault(1, HEAD + ";entry a rent 1;speaker p ^pedants");
        fault(1, HEAD + ";entry a rent 1;speaker p ^a");
        fault(1, HEAD + ";entry a rent 1;speaker p ^3");
        fault(1, HEAD + ";entry a rent 1;speaker p^");
        fault(1, HEAD + ";entry a rent 1;speaker p child ^child");
        for (int n = 0; n <= 4; n++) C.due("speakers", fine(1, HEAD + entryLines(1) + speakerLines(n)).size(5), n);
        fault(5, HEAD + entryLines(1) + speakerLines(4) + ";^speaker t child");
        fault(5, HEAD + entryLines(1) + speakerLines(4) + ";^speaker p king");
    }

    private static void sayings() {
        String told = HEAD + entryLines(4) + speakerLines(4);
        C.due("said once", fine(4, told + ";says p a times 1").saysIn(0, 0, 1), 1);
        C.due("said forty times", fine(4, told + ";says p a times 40").saysIn(0, 0, 1), 40);
        fault(4, told + ";says p a times ^0");
        fault(4, told + ";says p a times ^000");
        fault(4, told + ";says p a times ^41");
        fault(4, told + ";says p a times ^999");
        fault(3, told + ";says p a times 1;says p ^a times 2");
        fine(4, told + ";says p a times 1;says q a times 1;says p b times 1");
        for (int n = 13; n <= 14; n++) C.due("sayings", fine(4, told + sayLines(n)).size(6), n);
        fault(5, told + sayLines(14) + ";^says s c times 1");
        fault(5, told + sayLines(14) + ";^says p a times 1");
        fault(1, told + ";says p a ^time 1");
        fault(1, told + ";says p a ^1");
        fault(1, told + ";says p a times^");
        fault(1, told + ";says p a times ^times 1");
    }

    private static void unsureOnes() {
        String told = HEAD + entryLines(4) + speakerLines(2) + sayLines(6);
        fine(4, told + ";unsure p a 0");
        fine(4, told + ";unsure p a 40");
        fine(4, told + ";unsure p a 1");
        fault(4, told + ";unsure p a ^41");
        fault(4, told + ";unsure p a ^999");
        fault(3, told + ";unsure p a 2;unsure p ^a 3");
        fault(7, told + ";unsure q ^c 1");
        fault(7, told + ";unsure q ^d 1;says q d times 1");
        fault(7, HEAD + entryLines(4) + speakerLines(2) + ";unsure p ^a 1");
        fault(1, told + ";unsure p a ^times 1");
        fault(1, told + ";unsure p a^");
        String four = told + ";unsure p a 2;unsure p b 2;unsure q a 2;unsure q b 2";
        C.due("four unsure ones", fine(4, four).size(7), 4);
        fault(5, four + ";^unsure p c 2");
        fault(5, four + ";^unsure p a 2");
    }

    private static void thoseThatLeft() {
        String told = HEAD + entryLines(8);
        fine(8, told + ";left a year 1");
        fine(8, told + ";left a year 12");
        fault(4, told + ";left a year ^0");
        fault(4, told + ";left a year ^13");
        fault(4, told + ";left a year ^999");
        fault(3, told + ";left a year 1;left ^a year 1");
        fault(1, told + ";left a ^1");
        fault(1, told + ";left a year^");
        StringBuilder all = new StringBuilder(told);
        for (char e = 'a'; e <= 'h'; e++) all.append(";left ").append(e).append(" year 12");
        C.due("all eight left", fine(8, all.toString()).size(8), 8);
        fault(3, all + ";left ^h year 12");
    }

    /** A HOUSE that is full in all it may have, and one more of each. */
    private static void allAtOnce() {
        StringBuilder text = new StringBuilder("house grace 3 mood 100");
        text.append(entryLines(8));
        for (char e = 'a'; e < 'g'; e++) text.append(";means ").append(e).append(" g;means ").append(e).append(" h");
        for (char e = 'b'; e < 'h'; e++) text.append(";rhymes a ").append(e);
        text.append(speakerLines(4)).append(sayLines(14));
        for (char p = 'p'; p < 't'; p++) text.append(";unsure ").append(p).append(" a 3");
        for (char e = 'a'; e <= 'h'; e++) text.append(";left ").append(e).append(" year 2");
        WordHouse x = fine(8, text.toString());
        int[] sizes = {3, 100, 8, 12, 6, 4, 14, 4, 8, 0, 0, 0, 0, 0};
        for (int what = 0; what < 14; what++) C.due("size " + what + " of the full house", x.size(what), sizes[what]);
        fine(8, text + " ".repeat(900 - text.length()));
        fault(5, text + ";^entry i rent 1");
        fault(5, text + ";^means g a");
        fault(5, text + ";^rhymes b c");
        fault(5, text + ";^speaker t child");
        fault(5, text + ";^says s c times 1");
        fault(5, text + ";^unsure p b 1");
        fault(3, text + ";left ^a year 1");
        fault(3, text + ";^house grace 1 mood 1");
        fault(1, text + " ".repeat(899 - text.length()) + "^,");
        fault(1, text + " ".repeat(899 - text.length()) + ";^");
    }

    /** Of two FAULTS the one further left, whatever their numbers. */
    private static void firstFromTheLeft() {
        fault(4, "house grace ^4 mood 101 !");
        fault(4, "house grace 3 mood ^101;entry");
        fault(6, "^entry a rent 61!");
        fault(6, "^means abcdefghij");
        fault(5, HEAD + entryLines(8) + ";^entry a rent 1");
        fault(5, HEAD + entryLines(8) + ";^entry left");
        fault(5, HEAD + entryLines(3) + ";means a b;means a b;means ^a a");
        fault(2, HEAD + entryLines(1) + ";means ^z z!");
        fault(3, HEAD + entryLines(1) + ";entry ^a rent 99");
        fault(3, HEAD + entryLines(1) + ";entry ^a");
        fault(3, HEAD + entryLines(2) + ";means a ^a b");
        fault(3, HEAD + entryLines(2) + ";rhymes a ^a !");
        fault(7, HEAD + entryLines(1) + speakerLines(1) + ";unsure p ^a 99");
        fault(7, HEAD + entryLines(1) + speakerLines(1) + ";unsure p ^a");
        fault(3, HEAD + ";^house grace 99");
        fault(1, HEAD + ";entry a rent 1^!;entry a rent 1");
        fault(4, HEAD + ";entry a rent ^99 !");
        fault(2, HEAD + entryLines(1) + ";says ^a a times 99");
    }

    /** Of one place the least number. */
    private static void leastOfOnePlace() {
        // Too long a run where a NAME is due that can't be told: 1 ahead of 2; and of a WHOLE: 1 ahead of 4.
        fault(1, HEAD + entryLines(1) + ";left ^aaaaaaaaa year 1");
        fault(1, HEAD + ";entry a rent ^6100");
        // The end: no TOKEN goes on (1), and no entry is told (6).
        fault(1, "^");
        fault(1, "house^");
        fault(1, "house grace 1 mood^");
        fault(1, HEAD + ";^");
        fault(1, HEAD + ";entry^");
        fault(1, HEAD + ";entry a rent^");
        // One that isn't told is not said either: 2 ahead of 7; nor is one of another sort.
        fault(2, HEAD + entryLines(1) + speakerLines(1) + ";unsure p ^b 1");
        fault(2, HEAD + entryLines(1) + speakerLines(1) + ";unsure p ^p 1");
        // A WORD that begins no LINE, ahead of the house: 1 ahead of 6.
        fault(1, "^rent a;" + HEAD);
    }

    /** The end is a place behind all bytes that are read, blanks too. */
    private static void theEnd() {
        fault(1, "   ^");
        fault(1, "house grace 1 mood   ^");
        fault(6, HEAD + "   ^");
        fault(1, HEAD + ";entry a rent 1;   ^");
        fault(1, " ".repeat(900) + "^");
        fault(6, HEAD + " ".repeat(900 - HEAD.length()) + "^");
        fault(1, HEAD + " ".repeat(898 - HEAD.length()) + ";" + " ^");
    }

    private static String fullText() {
        return "house grace 3 mood 100" + entryLines(8) + ";means a b,c;means a d;means b h;means h a,b,c;means c b;means c h;"
            + "rhymes a b;rhymes c d;rhymes h a" + speakerLines(4) + sayLines(14)
            + ";unsure p a 0;unsure q b 40;left a year 2;left h year 9";
    }

    /** Nothing of an earlier HOUSE, or of a text with a FAULT, is in a later one. */
    private static void theThirdHouse() {
        String[] small = {HEAD + ";entry a rent 1", HEAD + entryLines(8), HEAD + entryLines(3) + ";means c a;rhymes b c",
            HEAD + entryLines(2) + speakerLines(2) + ";says q b times 3", "house grace 0 mood 0;entry z rent 0",
            HEAD + entryLines(3) + ";left b year 2", HEAD + entryLines(2) + speakerLines(1) + sayLines(2) + ";unsure p b 9"};
        for (String text : small) {
            WordHouse fresh = new WordHouse();
            Check.house(fresh, text);
            Picture due = Picture.whole(fresh);
            String[][] earlier = {{fullText(), fullText()}, {fullText() + ";left a year 1"}, {fullText(), fullText() + "!"},
                {small[0], fullText() + ";left b year 13"}};
            for (String[] before : earlier) {
                WordHouse x = new WordHouse();
                for (String one : before) {
                    if (Check.house(x, one) > 0) {
                        x.say(0, 9);
                        x.year();
                    }
                }
                Check.house(x, text);
                String difference = Picture.whole(x).difference(due);
                C.due(text + " behind other texts " + difference, difference.isEmpty(), true);
            }
        }
    }

    /** A sign that is no TOKEN is none, whatever TOKEN stood before it; nor does a WORD of an earlier text count. */
    private static void nothingOfTheTextBefore() {
        fault(1, HEAD + ";entry rent ^! 1");
        fault(1, HEAD + ";entry rent^! 1");
        fault(1, "house grace ^! mood 5;entry a rent 1");
        fault(1, HEAD + ";entry times rent 1;speaker p child;says p times ^! 1");
        fault(1, HEAD + entryLines(3) + ";means a b,^!c");
        fault(1, HEAD + entryLines(3) + ";means a ^! b");
        WordHouse x = new WordHouse();
        Check.house(x, "house");
        C.due("a number for a word", Check.house(x, "5 grace 1 mood 5;entry a rent 1"), -1);
        C.due("its place", x.where(), 0);
        C.due("its fault", x.fault(), 1);
        Check.house(x, HEAD + ";entry a rent 1;entry b");
        C.due("a name of the text before", Check.house(x, HEAD + ";entry c rent 1;left a year 1"), -1);
        C.due("isn't told", x.fault(), 2);
        Check.house(x, HEAD + ";entry c rent 1;speaker p child!");
        C.due("nor is a speaker's", Check.house(x, HEAD + ";entry c rent 1;says p c times 1"), -1);
        C.due("he isn't told", x.fault(), 2);
        C.due("told anew", Check.house(x, HEAD + ";entry p rent 1;entry c rent 1;speaker a child"), 2);
    }

    /** Promises 4 and 5. */
    private static void faultAndWhere() {
        WordHouse x = new WordHouse();
        C.due("fault of no house() yet", x.fault(), 0);
        C.due("where of no call yet", x.where(), -1);
        Check.house(x, "house grace 4");
        C.due("fault", x.fault(), 4);
        C.due("where", x.where(), 12);
        C.due("where told again", x.where(), 12);
        // Calls of which no number is told leave it; so does one of them that comes to nothing.
        x.feed(1, 1, 1, 1, 1);
        x.fault();
        x.trouble();
        x.size(2);
        x.size(99);
        C.due("led of no house", Picture.led(x, 0), Picture.NO_SUCH);
        C.due("where behind calls that can't be refused", x.where(), 12);
        C.due("trouble behind them", x.trouble(), 4);
        for (int k = 0; k < 50; k++) x.feed(1, 1, 1, 1, 1);
        C.due("where behind a tape that had no room", x.where(), 12);
        C.due("trouble behind it", x.trouble(), 4);
        x.house(901);
        C.due("trouble of 2", x.trouble(), 2);
        C.due("fault stays through 2", x.fault(), 4);
        C.due("where doesn't", x.where(), -1);
        x.house(900);
        C.due("a later fault", x.fault(), 1);
        C.due("its place", x.where(), 0);
        x.undo();
        C.due("where behind another refused call", x.where(), -1);
        C.due("fault behind it", x.fault(), 1);
        Check.house(x, HEAD + ";entry a rent 1");
        C.due("fault behind a house", x.fault(), 0);
        C.due("where behind a house", x.where(), -1);
        Check.house(x, HEAD);
        C.due("fault of the latest", x.fault(), 6);
        C.due("where of the latest", x.where(), HEAD.length());
        C.due("the house stays", x.lodgers(), 1);
        C.due("where behind a call that isn't refused", x.where(), -1);
        C.due("fault behind it", x.fault(), 6);
    }

    /** Promise 3: all in it, nobody BEHIND, no year gone by, SEED 0; nothing to undo, no IMAGES. */
    private static void theNewHouse() {
        String text = HEAD + ";entry a rent 1;entry b rent 0";
        WordHouse x = new WordHouse();
        liveEarlier(x);
        x.image();
        x.image();
        C.due("the new house", Check.house(x, text), 2);
        WordHouse fresh = new WordHouse();
        Check.house(fresh, text);
        C.due("as one that is the first", Picture.whole(x).difference(Picture.whole(fresh)).isEmpty(), true);
        x = new WordHouse();
        liveEarlier(x);
        Check.house(x, text);
        C.due("all in", x.lodgers(), 3);
        C.due("nobody behind", x.entry(0, 2) + x.entry(1, 2), 0);
        C.due("nothing said", x.entry(0, 3) + x.entry(1, 3), 0);
        C.due("no year gone by", x.size(9), 0);
        C.due("seed 0", x.size(10), 0);
        C.due("nothing to undo", x.undo(), false);
        C.due("by 6", x.trouble(), 6);
        C.due("no images", x.back(0), false);
        C.due("by 1", x.trouble(), 1);
        for (int k = 0; k < 3; k++) C.due("room for images", x.image(), k);
        C.due("none of the meanings", x.size(3), 0);
        C.due("none of the speakers", x.size(5), 0);
        C.due("none of those that left", x.size(8), 0);
        C.due("one set fits", x.fits(), 1);
    }
}
