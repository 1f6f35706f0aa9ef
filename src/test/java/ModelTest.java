import java.nio.charset.StandardCharsets;
import java.util.NoSuchElementException;
import java.util.Random;
import java.util.function.LongSupplier;

/** Runs of calls by chance (of a fixed seed): the class and the Model must answer alike. */
public final class ModelTest {
    private static final int CALLS = 512;
    private static final Check CHECK = new Check();

    private final Random chance;
    private final Texts texts;
    private final WordHouse x = new WordHouse();
    private final Model model = new Model();
    private String latest = "";

    private ModelTest(long seed) {
        chance = new Random(seed);
        texts = new Texts(chance);
    }

    public static void main(String[] args) {
        int runs = args.length > 0 ? Integer.parseInt(args[0]) : 150;
        int texts = args.length > 1 ? Integer.parseInt(args[1]) : 20000;
        long from = args.length > 2 ? Long.parseLong(args[2]) : 1;
        for (int run = 0; run < runs && CHECK.wrong() == 0; run++) new ModelTest(from + run).run();
        for (int k = 0; k < texts && CHECK.wrong() == 0; k++) new ModelTest(-from - k).readWrongText();
        CHECK.end();
    }

    private void run() {
        int calls = 0;
        while (calls < CALLS && CHECK.wrong() == 0) {
            if (calls == 0 && chance.nextInt(10) > 0 || chance.nextInt(150) == 0) {
                calls += tell(chance.nextInt(5) == 0 ? texts.spoiled() : texts.whole());
            } else {
                call();
            }
            if (chance.nextInt(3) == 0) {
                same("trouble()", x.trouble(), model.trouble);
                calls++;
            }
            calls++;
        }
    }

    private void readWrongText() {
        tell(texts.spoiled());
        same("size(2)", x.size(2), model.size(2));
    }

    private void same(String call, long got, long want) {
        CHECK.due(call + " [" + latest + "]", got, want);
    }

    private int below(int n) {
        return chance.nextInt(n);
    }

    // ---- texts

    /** How many calls it took. */
    private int tell(String text) {
        latest = text;
        StringBuilder left = new StringBuilder(text);
        while (left.length() % 20 != 0) left.append(' ');
        int calls = 4;
        for (int at = 0; at < left.length(); at += 20) {
            feed(left.substring(at, at + 20));
            calls++;
        }
        int n = below(20) == 0 ? below(1000) - 20 : text.length();
        ask("house", () -> x.house(n), () -> model.house(n));
        same("fault()", x.fault(), model.fault);
        same("where()", x.where(), model.where());
        same("size(13)", x.size(13), model.size(13));
        return calls;
    }

    private void feed(String twenty) {
        byte[] b = twenty.getBytes(StandardCharsets.ISO_8859_1);
        int[] n = new int[5];
        for (int k = 0; k < 20; k++) n[k / 4] = n[k / 4] << 8 | b[k] & 255;
        same("feed", x.feed(n[0], n[1], n[2], n[3], n[4]), model.feed(twenty));
    }

    // ---- calls

    private void ask(String call, LongSupplier got, LongSupplier want) {
        ask(call, got, want, -1);
    }

    private void ask(String call, LongSupplier got, LongSupplier want, long none) {
        long due;
        try {
            due = want.getAsLong();
            model.trouble = 0;
        } catch (Model.Refusal refusal) {
            model.trouble = refusal.number;
            due = none;
        }
        same(call, got.getAsLong(), due);
    }

    private static long one(boolean answer) {
        return answer ? 1 : 0;
    }

    private int led(int i) {
        try {
            return x.led(i);
        } catch (NoSuchElementException none) {
            return -7;
        }
    }

    /** Mostly a number from 0 to n - 1, sometimes one beside it, seldom any. */
    private int near(int n) {
        if (below(60) == 0) return chance.nextInt();
        return below(12) == 0 ? (below(2) == 0 ? -1 : n) : below(n);
    }

    private int anEntry() {
        return near(Math.max(1, model.size(2)));
    }

    private int aYear() {
        return below(2) == 0 ? model.size(9) + 1 : near(100);
    }

    private void call() {
        switch (below(6)) {
            case 0 -> ofNow();
            case 1 -> ofYears();
            case 2 -> ofWords();
            case 3 -> ofUnsure();
            case 4 -> ofMoods();
            default -> act();
        }
    }

    private void ofNow() {
        int e = anEntry();
        int k = near(3);
        int y = aYear();
        int p = near(Math.max(1, model.size(5)));
        int what = near(7);
        switch (below(9)) {
            case 0 -> ask("entry(" + e + ", " + what + ")", () -> x.entry(e, what), () -> model.entry(e, what));
            case 1 -> ask("meaning(" + e + ", " + k + ")", () -> x.meaning(e, k), () -> model.meaning(e, k));
            case 2 -> ask("speaker(" + p + ", " + k + ")", () -> x.speaker(p, k), () -> model.speaker(p, k));
            case 3 -> ask("saysIn(" + p + ", " + e + ", " + y + ")", () -> x.saysIn(p, e, y), () -> model.saysIn(p, e, y));
            case 4 -> ask("uses(" + e + ", " + y + ")", () -> x.uses(e, y), () -> model.uses(e, y));
            case 5 -> ask("pays(" + e + ", " + y + ")", () -> x.pays(e, y), () -> model.pays(e, y));
            case 6 -> ask("lodgers()", x::lodgers, model::lodgers);
            case 7 -> ask("debtors()", x::debtors, model::debtors);
            default -> same("size(" + what * 2 + ")", x.size(what * 2), model.size(what * 2));
        }
    }

    private void ofYears() {
        int e = anEntry();
        int n = near(61);
        switch (below(9)) {
            case 0 -> ask("after(" + n + ")", () -> x.after(n), () -> model.after(n));
            case 1 -> ask("outIn(" + e + ")", () -> x.outIn(e), () -> model.outIn(e));
            case 2 -> ask("emptyIn()", x::emptyIn, model::emptyIn);
            case 3 -> ask("pillar()", x::pillar, model::pillar);
            case 4 -> ask("goWith(" + e + ")", () -> x.goWith(e), () -> model.goWith(e));
            case 5 -> ask("keep(" + e + ")", () -> x.keep(e), () -> model.keep(e));
            case 6 -> {
                if (below(4) == 0) ask("dearest()", x::dearest, model::dearest);
            }
            case 7 -> same("led(" + e + ")", led(e), model.led(e));
            default -> same("size(" + n + ")", x.size(n % 15), model.size(n % 15));
        }
    }

    private void ofWords() {
        int e = anEntry();
        int o = anEntry();
        switch (below(10)) {
            case 0 -> ask("rings()", x::rings, model::rings);
            case 1 -> ask("point()", x::point, model::point);
            case 2 -> ask("depth(" + e + ")", () -> x.depth(e), () -> model.depth(e));
            case 3 -> ask("fell()", x::fell, model::fell);
            case 4 -> ask("roots(" + e + ")", () -> x.roots(e), () -> model.roots(e));
            case 5 -> ask("circular(" + e + ")", () -> x.circular(e), () -> model.circular(e));
            case 6 -> ask("apart(" + e + ", " + o + ")", () -> x.apart(e, o), () -> model.apart(e, o));
            case 7 -> ask("twins()", x::twins, model::twins);
            case 8 -> ask("chime(" + e + ", " + o + ")", () -> x.chime(e, o), () -> model.chime(e, o));
            default -> ask("families()", x::families, model::families);
        }
    }

    private void ofUnsure() {
        int i = near(5);
        int ink = near(10);
        boolean one = chance.nextBoolean();
        boolean other = chance.nextBoolean();
        boolean of = chance.nextBoolean();
        switch (below(10)) {
            case 0 -> ask("fits()", x::fits, model::fits);
            case 1 -> ask("fitAt(" + i + ")", () -> x.fitAt(i), () -> model.fitAt(i));
            case 2 -> ask("could()", x::could, model::could);
            case 3 -> ask("surely()", x::surely, model::surely);
            case 4 -> ask("ask()", x::ask, model::ask);
            case 5 -> ask("askLeaves()", x::askLeaves, model::askLeaves);
            case 6 -> ask("judge()", x::judge, model::judge);
            case 7 -> ask("mends(" + ink + ")", () -> x.mends(ink, one, other, of),
                () -> model.mends(ink, one, other, of), -100);
            case 8 -> ask("rests(" + ink + ")", () -> x.rests(ink), () -> model.rests(ink));
            default -> ask("rest(" + ink + ")", () -> x.rest(ink), () -> model.rest(ink));
        }
    }

    private void ofMoods() {
        int e = anEntry();
        int n = near(61);
        int seed = near(65537);
        boolean lower = chance.nextBoolean();
        switch (below(5)) {
            case 0 -> ask("odds(" + e + ", " + lower + ")", () -> x.odds(e, lower), () -> model.odds(e, lower));
            case 1 -> ask("mean(" + e + ", " + lower + ")", () -> x.mean(e, lower), () -> model.mean(e, lower));
            case 2 -> ask("stays(" + e + ", " + lower + ")", () -> x.stays(e, lower), () -> model.stays(e, lower));
            case 3 -> ask("moody(" + seed + ", " + n + ")", () -> x.moody(seed, n), () -> model.moody(seed, n));
            default -> ask("firstOut(" + seed + ", " + n + ")", () -> x.firstOut(seed, n), () -> model.firstOut(seed, n));
        }
    }

    private void act() {
        int e = anEntry();
        int n = 1 + near(20);
        int v = near(65537);
        int k = near(3);
        switch (below(12)) {
            case 0, 1 -> ask("year()", x::year, () -> model.year(false));
            case 2 -> ask("moodyYear()", x::moodyYear, () -> model.year(true));
            case 3, 4 -> ask("say(" + e + ", " + n + ")", () -> x.say(e, n), () -> model.say(e, n));
            case 5 -> ask("evict(" + e + ")", () -> x.evict(e), () -> model.evict(e));
            case 6, 7 -> ask("take(" + e + ")", () -> one(x.take(e)), () -> model.take(e), 0);
            case 8 -> ask("seed(" + v + ")", () -> one(x.seed(v)), () -> model.seed(v), 0);
            case 9 -> ask("undo()", () -> one(x.undo()), model::undo, 0);
            case 10 -> ask("image()", x::image, model::image);
            default -> ask("back(" + k + ")", () -> one(x.back(k)), () -> model.back(k), 0);
        }
    }
}
