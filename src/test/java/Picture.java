import java.util.ArrayList;
import java.util.List;
import java.util.NoSuchElementException;

/** What an object answers to all that can be asked of it: two that are alike in it are in like states. */
final class Picture {
    /** What led() answers here where it throws: no entry has that number. */
    static final int NO_SUCH = -7;

    private final List<String> rows = new ArrayList<>();
    private final WordHouse x;
    private final int entries;
    private final int speakers;

    private Picture(WordHouse x) {
        this.x = x;
        entries = x.size(2);
        speakers = x.size(5);
    }

    /** By calls that change nothing. */
    static Picture still(WordHouse x) {
        Picture p = new Picture(x);
        p.now();
        p.told();
        p.ahead();
        p.texts();
        return p;
    }

    /** Also what it goes back to: behind this the object is of no more use. */
    static Picture whole(WordHouse x) {
        Picture p = still(x);
        p.undone();
        p.imaged();
        return p;
    }

    /** The first row in which another one differs, or nothing. */
    String difference(Picture other) {
        for (int k = 0; k < Math.min(rows.size(), other.rows.size()); k++) {
            if (!rows.get(k).equals(other.rows.get(k))) return rows.get(k) + " against " + other.rows.get(k);
        }
        return rows.size() == other.rows.size() ? "" : rows.size() + " rows against " + other.rows.size();
    }

    int calls() {
        return rows.size() + 2;
    }

    static int led(WordHouse x, int i) {
        try {
            return x.led(i);
        } catch (NoSuchElementException none) {
            return NO_SUCH;
        }
    }

    private void row(String call, long answer) {
        rows.add(call + " is " + answer);
    }

    private void row(String call, boolean answer) {
        rows.add(call + " is " + answer);
    }

    private void now() {
        row("lodgers()", x.lodgers());
        row("size(9)", x.size(9));
        row("size(10)", x.size(10));
        row("size(11)", x.size(11));
        row("size(12)", x.size(12));
        for (int e = 0; e < entries; e++) {
            row("entry(" + e + ", 2)", x.entry(e, 2));
            row("entry(" + e + ", 3)", x.entry(e, 3));
        }
    }

    private void told() {
        for (int what = 0; what < 9; what++) row("size(" + what + ")", x.size(what));
        row("size(13)", x.size(13));
        for (int e = 0; e < entries; e++) {
            for (int what : new int[] {0, 1, 4, 5, 6}) row("entry(" + e + ", " + what + ")", x.entry(e, what));
            for (int k = 0; k < 2; k++) row("meaning(" + e + ", " + k + ")", x.meaning(e, k));
            for (int p = 0; p < speakers; p++) row("saysIn(" + p + ", " + e + ", 2)", x.saysIn(p, e, 2));
            row("uses(" + e + ", 3)", x.uses(e, 3));
            row("pays(" + e + ", 1)", x.pays(e, 1));
            row("led(" + e + ")", led(x, e));
        }
        for (int p = 0; p < speakers; p++) {
            row("speaker(" + p + ", 0)", x.speaker(p, 0));
            row("speaker(" + p + ", 1)", x.speaker(p, 1));
        }
    }

    private void ahead() {
        row("debtors()", x.debtors());
        row("after(1)", x.after(1));
        row("after(60)", x.after(60));
        row("emptyIn()", x.emptyIn());
        row("pillar()", x.pillar());
        row("dearest()", x.dearest());
        row("rings()", x.rings());
        row("point()", x.point());
        row("fell()", x.fell());
        row("moody(3, 9)", x.moody(3, 9));
        row("firstOut(3, 9)", x.firstOut(3, 9));
        for (int e = 0; e < entries; e++) {
            row("outIn(" + e + ")", x.outIn(e));
            row("goWith(" + e + ")", x.goWith(e));
            row("keep(" + e + ")", x.keep(e));
            row("depth(" + e + ")", x.depth(e));
            row("roots(" + e + ")", x.roots(e));
            row("odds(" + e + ")", x.odds(e, false));
            row("mean(" + e + ")", x.mean(e, false));
            row("stays(" + e + ")", x.stays(e, false));
        }
    }

    private void texts() {
        row("twins()", x.twins());
        row("families()", x.families());
        row("fits()", x.fits());
        row("fitAt(0)", x.fitAt(0));
        row("could()", x.could());
        row("surely()", x.surely());
        row("ask()", x.ask());
        row("askLeaves()", x.askLeaves());
        row("judge()", x.judge());
    }

    private void undone() {
        for (int k = 0; k <= 16; k++) {
            boolean could = x.undo();
            row("undo()", could);
            if (!could) return;
            now();
        }
    }

    private void imaged() {
        for (int image = 0; image < 3; image++) {
            boolean could = x.back(image);
            row("back(" + image + ")", could);
            if (could) now();
        }
    }
}
