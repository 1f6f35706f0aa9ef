import java.util.ArrayList;
import java.util.HashMap;
import java.util.HashSet;
import java.util.List;
import java.util.Map;
import java.util.Set;

/**
 * All FAULTS of a text, each rule for itself: first where the form breaks, by the LINES' patterns alone; then, in the
 * LINES up to there, whatever the other rules find. Nobody stops at a FAULT here: which is the first from the left,
 * and of one place the least, is seen at the end.
 */
final class AllFaults {
    private record Token(String text, int place) {
    }

    private static final Map<String, String> PATTERNS = Map.of("house", "grace # mood #", "entry", "@ rent #",
        "means", "@ @ *", "rhymes", "@ @", "speaker", "@ KIND", "says", "@ @ times #", "unsure", "@ @ #",
        "left", "@ year #");
    private static final Map<String, Integer> ROOM = Map.of("entry", 8, "means", 12, "rhymes", 6, "speaker", 4,
        "says", 14, "unsure", 4);

    private final List<Token> tokens = new ArrayList<>();
    private final List<List<Token>> lines = new ArrayList<>();
    private final Set<String> entries = new HashSet<>();
    private final Set<String> speakers = new HashSet<>();
    private final Set<String> told = new HashSet<>();
    private final Map<String, Integer> count = new HashMap<>();
    private int number;
    private int place = Integer.MAX_VALUE;
    private int next;

    AllFaults(String text) {
        cut(text);
        boolean whole = inForm();
        for (List<Token> line : lines) look(line);
        if (whole && count("entry") == 0) found(6, text.length());
    }

    /** The FAULT that is due; 0 without one. */
    int number() {
        return number;
    }

    int place() {
        return number == 0 ? -1 : place;
    }

    private void found(int fault, int at) {
        if (at > place || at == place && fault >= number) return;
        number = fault;
        place = at;
    }

    // ---- the form

    private void cut(String text) {
        int at = 0;
        while (at < text.length()) {
            int end = at + 1;
            int sort = sort(text.charAt(at));
            while (sort > 0 && end < text.length() && sort(text.charAt(end)) == sort) end++;
            if (text.charAt(at) != ' ') tokens.add(new Token(text.substring(at, end), at));
            at = end;
        }
        tokens.add(new Token("", text.length()));
    }

    private static int sort(char sign) {
        return sign >= 'a' && sign <= 'z' ? 1 : sign >= '0' && sign <= '9' ? 2 : 0;
    }

    private boolean inForm() {
        do {
            if (!take(PATTERNS.containsKey(tokens.get(next).text()))) return false;
            List<Token> line = new ArrayList<>();
            lines.add(line);
            line.add(tokens.get(next - 1));
            for (String part : PATTERNS.get(line.get(0).text()).split(" ")) {
                if (part.equals("*")) {
                    if (!more(line)) return false;
                } else {
                    if (!take(fits(part))) return false;
                    line.add(tokens.get(next - 1));
                }
            }
        } while (tokens.get(next).text().equals(";") && next++ >= 0);
        return take(tokens.get(next).text().isEmpty());
    }

    private boolean more(List<Token> line) {
        while (tokens.get(next).text().equals(",")) {
            next++;
            if (!take(fits("@"))) return false;
            line.add(tokens.get(next - 1));
        }
        return true;
    }

    private boolean take(boolean fits) {
        if (!fits) found(1, tokens.get(next).place());
        next++;
        return fits;
    }

    private boolean fits(String part) {
        String text = tokens.get(next).text();
        return switch (part) {
            case "#" -> text.matches("[0-9]{1,3}");
            case "@" -> text.matches("[a-z]{1,8}") && !PATTERNS.containsKey(text);
            case "KIND" -> text.matches("pedant|child|sailor");
            default -> text.equals(part);
        };
    }

    // ---- the other rules

    private int count(String sort) {
        return count.getOrDefault(sort, 0);
    }

    private void look(List<Token> line) {
        Token first = line.get(0);
        String sort = first.text();
        count.merge(sort, 1, Integer::sum);
        if (count("house") == 0) found(6, first.place());
        if (count("house") > 1 && sort.equals("house")) found(3, first.place());
        if (count(sort) > ROOM.getOrDefault(sort, 999)) found(5, first.place());
        switch (sort) {
            case "house" -> {
                bounds(line, 2, 0, 3);
                bounds(line, 4, 0, 100);
            }
            case "entry" -> {
                newName(line, entries);
                bounds(line, 3, 0, 60);
            }
            case "speaker" -> newName(line, speakers);
            case "means" -> means(line);
            case "rhymes" -> rhymes(line);
            case "left" -> {
                known(line, 1, entries);
                if (line.size() > 1) once("left " + line.get(1).text(), line.get(1));
                bounds(line, 3, 1, 12);
            }
            default -> saying(line, sort);
        }
    }

    private void bounds(List<Token> line, int k, int least, int most) {
        if (line.size() <= k) return;
        int value = Integer.parseInt(line.get(k).text());
        if (value < least || value > most) found(4, line.get(k).place());
    }

    private void newName(List<Token> line, Set<String> sort) {
        if (line.size() < 2) return;
        once("name " + line.get(1).text(), line.get(1));
        sort.add(line.get(1).text());
    }

    private void known(List<Token> line, int k, Set<String> sort) {
        if (line.size() > k && !sort.contains(line.get(k).text())) found(2, line.get(k).place());
    }

    private void once(String what, Token at) {
        if (!told.add(what)) found(3, at.place());
    }

    private void means(List<Token> line) {
        if (line.size() < 2) return;
        known(line, 1, entries);
        String name = line.get(1).text();
        if (count.merge("means " + name, 1, Integer::sum) > 2) found(5, line.get(1).place());
        Set<String> unlike = new HashSet<>(Set.of(name));
        for (int k = 2; k < line.size(); k++) {
            known(line, k, entries);
            if (!unlike.add(line.get(k).text())) found(3, line.get(k).place());
        }
    }

    private void rhymes(List<Token> line) {
        known(line, 1, entries);
        known(line, 2, entries);
        if (line.size() < 3) return;
        String one = line.get(1).text();
        String other = line.get(2).text();
        if (one.equals(other)) found(3, line.get(2).place());
        once("rhymes " + (one.compareTo(other) < 0 ? one + " " + other : other + " " + one), line.get(2));
    }

    private void saying(List<Token> line, String sort) {
        known(line, 1, speakers);
        known(line, 2, entries);
        if (line.size() > 2) {
            String both = line.get(1).text() + " " + line.get(2).text();
            if (sort.equals("unsure") && !told.contains("says " + both)) found(7, line.get(2).place());
            once(sort + " " + both, line.get(2));
        }
        if (sort.equals("says")) bounds(line, 4, 1, 40);
        if (sort.equals("unsure")) bounds(line, 3, 0, 40);
    }
}
