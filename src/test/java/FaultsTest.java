/** Texts with the FAULT and the place that the document asks for (promises 3 to 5). */
public final class FaultsTest {
    private static final Check CHECK = new Check();
    private static final String HEAD = "house grace 1 mood 5;";
    private static final String TWO = HEAD + "entry a rent 5;entry b rent 5;";
    private static final String SAID = TWO + "speaker p pedant;says p a times 5;";

    /** The text with the place marked by a sign that stands nowhere else. */
    private static void fault(int number, String marked) {
        int place = marked.indexOf('^');
        String text = marked.replace("^", "");
        WordHouse x = new WordHouse();
        CHECK.due("house of " + text, Check.house(x, text), -1);
        CHECK.due("trouble of " + text, x.trouble(), 4);
        CHECK.due("fault of " + text, x.fault(), number);
        CHECK.due("where of " + text, x.where(), place);
        CHECK.due("tape behind " + text, x.size(13), 0);
        CHECK.due("entries behind " + text, x.size(2), 0);
    }

    private static void fine(String text, int entries) {
        WordHouse x = new WordHouse();
        CHECK.due("house of " + text, Check.house(x, text), entries);
        CHECK.due("trouble of " + text, x.trouble(), 0);
        CHECK.due("fault of " + text, x.fault(), 0);
        CHECK.due("where of " + text, x.where(), -1);
    }

    public static void main(String[] args) {
        forms();
        names();
        again();
        bounds();
        many();
        lacks();
        fines();
        CHECK.end();
    }

    private static void forms() {
        fault(1, "^");
        fault(1, "    ^");
        fault(1, "^hous grace 1");
        fault(1, "^7");
        fault(1, "^;");
        fault(1, "house ^mood 1");
        fault(1, "house grace ^x");
        fault(1, "house grace^");
        fault(1, "house grace  ^");
        fault(1, "house grace 1 mood ^1000;entry a rent 1");
        fault(1, "house grace 1 mood 5^,entry a rent 1");
        fault(1, "house grace 1 mood 5;^");
        fault(1, "house grace 1 mood 5;entry a rent 5;^");
        fault(1, HEAD + "^Entry a rent 5");
        fault(1, HEAD + "entry ^A rent 5");
        fault(1, HEAD + "entry a^. rent 5");
        fault(1, HEAD + "entry a rent^\t5");
        fault(1, HEAD + "entry a rent 5^\n");
        fault(1, HEAD + "entry a rent 5^" + (char) 233);
        fault(1, HEAD + "entry a rent 5^" + (char) 160);
        fault(1, HEAD + "entry a rent 5^" + (char) 0);
        fault(1, HEAD + "entry ^abcdefghi rent 5");
        fault(1, HEAD + "entry ^speakerspeaker rent 5");
        fault(1, HEAD + "entry ^house rent 5");
        fault(1, HEAD + "entry ^entry rent 5");
        fault(1, HEAD + "entry ^means rent 5");
        fault(1, HEAD + "entry ^rhymes rent 5");
        fault(1, HEAD + "speaker ^speaker child");
        fault(1, HEAD + "speaker ^says child");
        fault(1, HEAD + "speaker ^unsure child");
        fault(1, HEAD + "speaker ^left child");
        fault(1, HEAD + "entry ^5 rent 5");
        fault(1, HEAD + "entry a ^5");
        fault(1, HEAD + "entry a rent 5 ^entry b rent 5");
        fault(1, TWO + "means ^entry b");
        fault(1, TWO + "means a^");
        fault(1, TWO + "means a^;");
        fault(1, TWO + "means a ^,b");
        fault(1, TWO + "means a b,^");
        fault(1, TWO + "means a b ^b");
        fault(1, TWO + "rhymes a^,b");
        fault(1, TWO + "rhymes a b^,a");
        fault(1, TWO + "speaker p ^a");
        fault(1, TWO + "speaker p^");
        fault(1, SAID + "says p ^3");
        fault(1, SAID + "says p b ^5");
        fault(1, SAID + "unsure p a ^times 5");
        fault(1, SAID + "left a ^5");
        fault(1, SAID + "left a year^");
    }

    private static void names() {
        fault(2, HEAD + "means ^a");
        fault(2, TWO + "means a ^c");
        fault(2, TWO + "means a b,^c");
        fault(2, SAID + "means ^p a");
        fault(2, SAID + "means a ^p");
        fault(2, SAID + "rhymes ^p a");
        fault(2, SAID + "rhymes a ^zz");
        fault(2, SAID + "says ^a a times 1");
        fault(2, SAID + "says ^q a times 1");
        fault(2, SAID + "says p ^p times 1");
        fault(2, SAID + "says p ^z times 99");
        fault(2, SAID + "unsure ^b a 1");
        fault(2, SAID + "unsure p ^p 1");
        fault(2, SAID + "left ^p year 1");
        fault(2, SAID + "left ^rent year 1");
        fault(2, HEAD + "entry a rent 5;speaker p child;says p ^b times 3;entry b rent 3");
    }

    private static void again() {
        fault(3, TWO + "entry ^a rent 99");
        fault(3, SAID + "entry ^p");
        fault(3, SAID + "speaker ^p king");
        fault(3, SAID + "speaker ^a child");
        fault(3, TWO + "means a ^a");
        fault(3, TWO + "means a b,^b");
        fault(3, TWO + "means a b , ^a");
        fault(3, TWO + "rhymes a ^a");
        fault(3, TWO + "rhymes a b;rhymes a ^b");
        fault(3, TWO + "rhymes a b;rhymes b ^a");
        fault(3, SAID + "says p ^a times 5");
        fault(3, SAID + "unsure p a 5;unsure p ^a 5");
        fault(3, SAID + "left a year 1;left ^a year 2");
        fault(3, HEAD + "^house grace 1 mood 5");
        fault(3, TWO + "^house 9");
    }

    private static void bounds() {
        fault(4, "house grace ^4 mood 5");
        fault(4, "house grace ^999 x");
        fault(4, "house grace 3 mood ^101");
        fault(4, HEAD + "entry a rent ^61");
        fault(4, SAID + "says p b times ^0");
        fault(4, SAID + "says p b times ^00");
        fault(4, SAID + "says p b times ^41");
        fault(4, SAID + "unsure p a ^41");
        fault(4, SAID + "left a year ^0");
        fault(4, SAID + "left a year ^13");
    }

    private static String entries(int n) {
        StringBuilder text = new StringBuilder("house grace 1 mood 5");
        for (int e = 0; e < n; e++) text.append(";entry ").append((char) ('a' + e)).append(" rent 1");
        return text.toString();
    }

    private static void many() {
        fault(5, entries(8) + ";^entry");
        fault(5, TWO + "means a b;means a b;means ^a b");
        String twelve = entries(8);
        for (int e = 0; e < 6; e++) {
            char name = (char) ('a' + e);
            twelve += ";means " + name + " g;means " + name + " h,g";
        }
        fine(twelve, 8);
        fault(5, twelve + ";^means g a");
        fault(5, twelve + ";^means 9");
        fault(5, entries(5) + ";rhymes a b;rhymes a c;rhymes a d;rhymes a e;rhymes b c;rhymes b d;^rhymes b e");
        String four = entries(4) + ";speaker p child;speaker q child;speaker r child;speaker s child";
        fault(5, four + ";^speaker t child");
        String says = four;
        for (int k = 0; k < 14; k++) says += ";says " + "pqrs".charAt(k / 4) + " " + "abcd".charAt(k % 4) + " times 1";
        fine(says, 4);
        fault(5, says + ";^says s d times 1");
        String unsure = says + ";unsure p a 1;unsure p b 1;unsure p c 1;unsure p d 0";
        fine(unsure, 4);
        fault(5, unsure + ";^unsure q a 1");
    }

    private static void lacks() {
        fault(6, "^entry a");
        fault(6, " ^means");
        fault(6, "^rhymes a b");
        fault(6, "^speaker p child;house grace 1 mood 5");
        fault(6, "^says");
        fault(6, "^unsure");
        fault(6, "^left");
        fault(6, "house grace 1 mood 5^");
        fault(6, "house grace 1 mood 5  ^");
        fault(6, "house grace 1 mood 5;speaker p child^");
        fault(7, SAID + "unsure p ^b 5");
        fault(7, SAID + "speaker q child;unsure q ^a 99");
        fault(7, TWO + "speaker p child;unsure p ^a 3;says p a times 3");
    }

    private static void fines() {
        fine("house grace 0 mood 0;entry a rent 0", 1);
        fine("house grace 3 mood 100;entry abcdefgh rent 60", 1);
        fine("  house  grace 003mood05;entry a rent060 ;entry rent rent 7", 2);
        fine(HEAD + "entry grace rent 5;entry mood rent 5;entry pedant rent 5;speaker child child", 3);
        fine(TWO + "means a b;means a b;means b a", 2);
        fine(SAID + "unsure p a 5;left a year 12;left b year 1", 2);
        fine(SAID + "unsure p a 40", 2);
        fine(entries(8) + ";left a year 1;left b year 1;left c year 1;left d year 1;left e year 1"
            + ";left f year 1;left g year 1;left h year 1", 8);
    }
}
