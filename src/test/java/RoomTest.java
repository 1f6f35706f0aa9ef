import java.lang.management.ManagementFactory;
import java.util.function.LongSupplier;

/** All calls of a run live in one room: what has been made once is used again, and no call makes more. */
public final class RoomTest {
    private static final String FULL = "house grace 3 mood 37;entry a rent 5;entry b rent 10;entry c rent 4;entry d rent 0;"
        + "entry e rent 6;entry f rent 7;entry g rent 8;entry h rent 9;means a b,c;means a d;means b c;means b e;"
        + "means c a;means c d;means e f;means e g,h;means f a,b,c;means g h;rhymes a b;rhymes c d;rhymes e f;rhymes a h;"
        + "speaker p pedant;speaker q child;speaker r sailor;speaker s child;says p a times 8;says q b times 12;"
        + "says r c times 3;says s e times 40;says p f times 7;says q g times 30;unsure p a 2;unsure q b 1;"
        + "unsure r c 9;unsure s e 3;left f year 4";
    private static final Check CHECK = new Check();
    private static long sum = 0;

    public static void main(String[] args) {
        com.sun.management.ThreadMXBean bean = (com.sun.management.ThreadMXBean) ManagementFactory.getThreadMXBean();
        LongSupplier made = () -> bean.getThreadAllocatedBytes(Thread.currentThread().getId());
        WordHouse x = new WordHouse();
        int[] numbers = numbers();
        for (int k = 0; k < 3; k++) everything(x, numbers);
        made.getAsLong();
        long before = made.getAsLong();
        long asking = made.getAsLong() - before;
        before = made.getAsLong();
        for (int k = 0; k < 50; k++) everything(x, numbers);
        long bytes = made.getAsLong() - before - asking;
        CHECK.due("bytes made by 50 rounds of all calls", bytes, 0);

        before = made.getAsLong();
        WordHouse other = new WordHouse();
        bytes = made.getAsLong() - before - asking;
        CHECK.due("a new object takes some kilobytes (" + bytes + ")", bytes < 12000, true);
        CHECK.due("sum", sum + other.size(0) != 0, true);
        CHECK.end();
    }

    private static int[] numbers() {
        StringBuilder text = new StringBuilder(FULL);
        while (text.length() % 20 != 0) text.append(' ');
        int[] numbers = new int[text.length() / 4];
        for (int k = 0; k < text.length(); k++) numbers[k / 4] = numbers[k / 4] << 8 | text.charAt(k);
        return numbers;
    }

    private static void everything(WordHouse x, int[] n) {
        for (int k = 0; k < n.length; k += 5) sum += x.feed(n[k], n[k + 1], n[k + 2], n[k + 3], n[k + 4]);
        sum += x.house(FULL.length()) + x.fault() + x.where();
        if (x.trouble() != 0) CHECK.due("house", x.trouble(), 0);
        for (int e = -1; e < 9; e++) {
            for (int k = -1; k < 9; k++) {
                sum += x.entry(e, k) + x.meaning(e, k) + x.speaker(e, k) + x.apart(e, k) + x.chime(e, k);
                sum += x.saysIn(k, e, 7) + x.uses(e, k) + x.pays(e, k);
            }
            sum += x.outIn(e) + x.goWith(e) + x.keep(e) + x.depth(e) + x.roots(e) + x.circular(e);
            sum += x.odds(e, true) + x.mean(e, true) + x.stays(e, false) + x.fitAt(e) + x.after(e * 7);
        }
        sum += x.lodgers() + x.debtors() + x.emptyIn() + x.pillar() + x.dearest() + x.rings() + x.point();
        sum += x.fell() + x.twins() + x.families() + x.fits() + x.could() + x.surely() + x.ask() + x.askLeaves();
        sum += x.judge() + x.mends(1, true, false, true) + x.rests(2) + x.rest(3) + x.moody(77, 60);
        sum += x.firstOut(77, 60) + x.image();
        for (int k = 0; k < 20; k++) {
            sum += x.year() + x.moodyYear() + x.say(k % 8, 3) + x.evict(k % 8);
            x.take(k % 8);
            x.seed(k);
        }
        x.undo();
        x.evict(0);
        sum += x.led(0) + x.size(11) + x.trouble();
        x.back(0);
    }
}
