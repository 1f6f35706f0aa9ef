import java.util.Random;

/** Texts by chance (of a fixed seed): the FAULT and its place are those that AllFaults finds by each rule for itself. */
public final class AllFaultsTest {
    private static final Check CHECK = new Check();
    private static final int[] MET = new int[8];

    public static void main(String[] args) {
        int count = args.length > 0 ? Integer.parseInt(args[0]) : 15000;
        long from = args.length > 1 ? Long.parseLong(args[1]) : 1;
        Texts texts = new Texts(new Random(from));
        for (int k = 0; k < count && CHECK.wrong() == 0; k++) {
            read(k % 10 == 0 ? texts.whole() : k % 3 == 0 ? texts.spoiled() : texts.misplaced());
        }
        for (int fault = 0; fault <= 7; fault++) {
            CHECK.due("fault " + fault + " is met often (" + MET[fault] + ")", MET[fault] >= count / 300, true);
        }
        CHECK.end();
    }

    private static void read(String text) {
        AllFaults due = new AllFaults(text);
        WordHouse x = new WordHouse();
        int entries = Check.house(x, text);
        CHECK.due("house of " + text + " is refused", entries == -1, due.number() != 0);
        CHECK.due("fault of " + text, x.fault(), due.number());
        CHECK.due("where of " + text, x.where(), due.place());
        CHECK.due("trouble of " + text, x.trouble(), due.number() == 0 ? 0 : 4);
        MET[due.number()]++;
    }
}
