import java.util.ArrayList;
import java.util.List;
import java.util.Random;

/** Texts by chance, for the tests that compare with a second telling. */
final class Texts {
    private static final String[] SCRAPS = {"a", "b", "h", "p", "q", "z", "house", "entry", "means", "rhymes", "speaker",
        "says", "unsure", "left", "grace", "mood", "rent", "times", "year", "pedant", "child", "sailor", "0", "1", "3",
        "4", "12", "13", "40", "41", "60", "61", "100", "101", "999", "1000", "007", ";", ",", ";;", "abcdefgh",
        "abcdefghi", "A", ".", "\n", "\u00e9", "means a b", "rhymes a b", "entry x rent 5", "left a year 1",
        "says p a times 1", "unsure p a 1", "speaker y child"};

    private final Random chance;

    Texts(Random chance) {
        this.chance = chance;
    }

    private int below(int n) {
        return chance.nextInt(n);
    }

    /** A text that is a HOUSE. */
    String whole() {
        int entries = 1 + below(8);
        int speakers = below(5);
        StringBuilder text = new StringBuilder("house grace " + below(4) + " mood " + (below(4) == 0 ? below(2) * 100 : below(101)));
        int rent = below(3) == 0 ? 61 : 16;
        for (int e = 0; e < entries; e++) text.append(";entry ").append(word(e)).append(" rent ").append(below(rent));
        List<String> lines = new ArrayList<>();
        int[] meanings = new int[entries];
        for (int k = below(13); k > 0 && entries > 1; k--) {
            int e = below(entries);
            int by = below(1 << entries) & (below(2) == 0 ? below(1 << entries) : -1) & ~(1 << e);
            if (by == 0 || meanings[e] == 2) continue;
            meanings[e]++;
            StringBuilder line = new StringBuilder("means " + word(e) + " ");
            for (int o = 0; o < entries; o++) {
                if ((by >> o & 1) == 1) line.append(word(o)).append(',');
            }
            line.setLength(line.length() - 1);
            lines.add(line.toString());
        }
        boolean[] rhymed = new boolean[64];
        for (int k = below(7); k > 0; k--) {
            int e = below(entries);
            int other = below(entries);
            if (e == other || rhymed[8 * e + other]) continue;
            rhymed[8 * e + other] = true;
            rhymed[8 * other + e] = true;
            lines.add("rhymes " + word(e) + " " + word(other));
        }
        boolean lefts = below(3) == 0;
        for (int e = 0; e < entries; e++) {
            if (lefts && below(5) == 0) lines.add("left " + word(e) + " year " + (1 + below(below(3) == 0 ? 12 : 5)));
        }
        mix(lines, text);
        for (int p = 0; p < speakers; p++) {
            text.append(";speaker ").append((char) ('p' + p)).append(' ').append(kind(below(3)));
        }
        sayings(entries, speakers, text);
        if (!lefts) leftAsByChance(text);
        return text.length() > 900 ? whole() : text.toString();
    }

    /** Tells years in which words did leave by some set of unsure sayings: sets by chance seldom fit. */
    private void leftAsByChance(StringBuilder text) {
        Model other = new Model();
        other.tape.append(text);
        other.house(text.length());
        Integer[] out = other.leaving(below(1 << other.home.unsures));
        for (int e = 0; e < out.length; e++) {
            if (out[e] != null && out[e] <= 12 && below(3) > 0) {
                text.append(";left ").append(word(e)).append(" year ").append(out[e]);
            }
        }
    }

    private void mix(List<String> lines, StringBuilder text) {
        while (!lines.isEmpty()) text.append(';').append(lines.remove(below(lines.size())));
    }

    private void sayings(int entries, int speakers, StringBuilder text) {
        List<String> unsure = new ArrayList<>();
        boolean[] said = new boolean[64];
        int most = below(3) == 0 ? 40 : 14;
        for (int k = speakers == 0 ? 0 : below(15); k > 0; k--) {
            int p = below(speakers);
            int e = below(entries);
            if (said[8 * p + e]) continue;
            said[8 * p + e] = true;
            String both = (char) ('p' + p) + " " + word(e);
            text.append(";says ").append(both).append(" times ").append(1 + below(most));
            if (unsure.size() < 4 && below(3) == 0) unsure.add("unsure " + both + " " + below(most + 1));
        }
        mix(unsure, text);
    }

    private static String word(int e) {
        return String.valueOf((char) ('a' + e));
    }

    private static String kind(int k) {
        return k == 0 ? "pedant" : k == 1 ? "child" : "sailor";
    }

    /** A text with some of its TOKENS, or LINES, changed, doubled, moved, or cut. */
    String spoiled() {
        String[] lines = whole().split(";");
        List<String> some = new ArrayList<>(List.of(lines));
        for (int k = below(3); k > 0; k--) {
            int at = below(some.size());
            switch (below(4)) {
                case 0 -> some.add(at, some.get(below(some.size())));
                case 1 -> some.add(some.get(at));
                case 2 -> some.add(below(2) == 0 ? some.size() : at, SCRAPS[below(SCRAPS.length)]);
                default -> {
                    if (some.size() > 1) some.remove(at);
                }
            }
        }
        String made = String.join(below(4) == 0 ? " ;" : ";", some);
        for (int k = below(3); k > 0; k--) {
            int at = below(made.length() + 1);
            int to = Math.min(made.length(), at + below(4));
            String scrap = SCRAPS[below(SCRAPS.length)];
            made = made.substring(0, at) + (below(3) == 0 ? " " + scrap + " " : below(2) == 0 ? scrap : "") + made.substring(to);
        }
        if (below(8) == 0) made = made.substring(0, below(made.length() + 1));
        return made.length() > 900 ? made.substring(0, 900) : made;
    }

    /** A text in form, or nearly, of which LINES, NAMES or WHOLES stand where they may not. */
    String misplaced() {
        List<String> lines = new ArrayList<>(List.of(whole().split(";")));
        for (int k = 1 + below(4); k > 0; k--) {
            int at = below(lines.size());
            String line = lines.get(at);
            switch (below(5)) {
                case 0 -> lines.add(below(lines.size() + 1), line);
                case 1 -> lines.add(below(lines.size()), lines.remove(at));
                case 2 -> lines.set(at, line.replaceFirst("[0-9]+$", String.valueOf(below(140))));
                case 3 -> lines.set(at, line.replaceFirst("\\b[a-hp-s]\\b", word(below(20))));
                default -> lines.add(lines.get(below(lines.size())).replaceAll("\\b[a-h]\\b", word(below(9))));
            }
        }
        String made = String.join(";", lines);
        return made.length() > 900 ? misplaced() : made;
    }
}
