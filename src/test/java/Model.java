import java.math.BigInteger;
import java.util.ArrayDeque;
import java.util.ArrayList;
import java.util.HashMap;
import java.util.HashSet;
import java.util.List;
import java.util.Map;
import java.util.Set;
import java.util.TreeSet;
import java.util.regex.Matcher;
import java.util.regex.Pattern;

/** The document told a second time, slowly and with the library, for ModelTest to compare with. */
final class Model {
    /** Thrown by a call that is refused, with its number. */
    static final class Refusal extends RuntimeException {
        final int number;

        Refusal(int number) {
            this.number = number;
        }
    }

    /** Thrown by the reading of a text. */
    static final class Fault extends RuntimeException {
        final int number;
        final int place;

        Fault(int number, int place) {
            this.number = number;
            this.place = place;
        }
    }

    static final class Word {
        String name;
        int rent;
        List<Set<Integer>> meanings = new ArrayList<>();
        Set<Integer> rhymes = new TreeSet<>();
        Integer left;
    }

    static final class Saying {
        int speaker;
        int word;
        int times;
        Integer other;
        int unsureNumber;
    }

    static final class Home {
        int grace;
        int mood;
        List<Word> words = new ArrayList<>();
        List<String> speakers = new ArrayList<>();
        List<String> kinds = new ArrayList<>();
        List<Saying> sayings = new ArrayList<>();
        int meanings;
        int rhymes;
        int unsures;
        int lefts;
    }

    static final class Time {
        Map<Integer, Integer> in = new HashMap<>();
        Map<Integer, Integer> said = new HashMap<>();
        int gone;
        long seed;

        Time copy() {
            Time t = new Time();
            t.in.putAll(in);
            t.said.putAll(said);
            t.gone = gone;
            t.seed = seed;
            return t;
        }
    }

    Home home;
    Time time = new Time();
    ArrayDeque<Time> undos = new ArrayDeque<>();
    List<Time> images = new ArrayList<>();
    StringBuilder tape = new StringBuilder();
    int fault;
    int place;
    int trouble;

    // ---- reading

    private static final String RESERVED = " house entry means rhymes speaker says unsure left ";

    private List<String> tokens;
    private List<Integer> places;
    private int at;
    private Home draft;

    private void cut(String text) {
        tokens = new ArrayList<>();
        places = new ArrayList<>();
        Matcher m = Pattern.compile("[a-z]+|[0-9]+|.", Pattern.DOTALL).matcher(text);
        while (m.find()) {
            if (m.group().equals(" ")) continue;
            tokens.add(m.group());
            places.add(m.start());
        }
        tokens.add("");
        places.add(text.length());
    }

    private Fault wrong(int number) {
        return new Fault(number, places.get(at));
    }

    private boolean stands(String pattern) {
        return tokens.get(at).matches(pattern);
    }

    private void expect(String word) {
        if (!tokens.get(at).equals(word)) throw wrong(1);
        at++;
    }

    private int whole(int least, int most) {
        if (!stands("[0-9]{1,3}")) throw wrong(1);
        int value = Integer.parseInt(tokens.get(at));
        if (value < least || value > most) throw wrong(4);
        at++;
        return value;
    }

    private String name() {
        if (!stands("[a-z]{1,8}") || RESERVED.contains(" " + tokens.get(at) + " ")) throw wrong(1);
        return tokens.get(at);
    }

    private int wordNamed(String name) {
        for (int e = 0; e < draft.words.size(); e++) {
            if (draft.words.get(e).name.equals(name)) return e;
        }
        return -1;
    }

    private String freshName() {
        String name = name();
        if (wordNamed(name) >= 0 || draft.speakers.contains(name)) throw wrong(3);
        at++;
        return name;
    }

    /** The ENTRY that stands; whoever asks goes on behind it once it is seen to be fine. */
    private int word() {
        int e = wordNamed(name());
        if (e < 0) throw wrong(2);
        return e;
    }

    private int talker() {
        int p = draft.speakers.indexOf(name());
        if (p < 0) throw wrong(2);
        at++;
        return p;
    }

    private Home parse(String text) {
        cut(text);
        at = 0;
        draft = new Home();
        boolean housed = false;
        do {
            String sort = tokens.get(at);
            if (sort.isEmpty() || !sort.matches("[a-z]{1,8}") || !RESERVED.contains(" " + sort + " ")) throw wrong(1);
            if (!sort.equals("house") && !housed) throw wrong(6);
            if (sort.equals("house") && housed) throw wrong(3);
            line(sort);
            housed = true;
        } while (tokens.get(at).equals(";") && at++ >= 0);
        if (!tokens.get(at).isEmpty()) throw wrong(1);
        if (draft.words.isEmpty()) throw wrong(6);
        return draft;
    }

    private void room(int has, int most) {
        if (has >= most) throw wrong(5);
        at++;
    }

    private void line(String sort) {
        switch (sort) {
            case "house" -> {
                at++;
                expect("grace");
                draft.grace = whole(0, 3);
                expect("mood");
                draft.mood = whole(0, 100);
            }
            case "entry" -> {
                room(draft.words.size(), 8);
                Word w = new Word();
                w.name = freshName();
                expect("rent");
                w.rent = whole(0, 60);
                draft.words.add(w);
            }
            case "means" -> {
                room(draft.meanings, 12);
                meansLine();
            }
            case "rhymes" -> {
                room(draft.rhymes, 6);
                int e = word();
                at++;
                int other = word();
                if (e == other || draft.words.get(e).rhymes.contains(other)) throw wrong(3);
                at++;
                draft.words.get(e).rhymes.add(other);
                draft.words.get(other).rhymes.add(e);
                draft.rhymes++;
            }
            case "speaker" -> {
                room(draft.speakers.size(), 4);
                String name = freshName();
                if (!stands("pedant|child|sailor")) throw wrong(1);
                draft.speakers.add(name);
                draft.kinds.add(tokens.get(at++));
            }
            case "left" -> {
                at++;
                Word w = draft.words.get(word());
                if (w.left != null) throw wrong(3);
                at++;
                expect("year");
                w.left = whole(1, 12);
                draft.lefts++;
            }
            default -> sayingLine(sort.equals("unsure"));
        }
    }

    private void meansLine() {
        int e = word();
        Word w = draft.words.get(e);
        if (w.meanings.size() == 2) throw wrong(5);
        Set<Integer> by = new TreeSet<>();
        do {
            at++;
            int other = word();
            if (other == e || !by.add(other)) throw wrong(3);
            at++;
        } while (tokens.get(at).equals(","));
        w.meanings.add(by);
        draft.meanings++;
    }

    private Saying saying(Home home, int p, int e) {
        for (Saying s : home.sayings) {
            if (s.speaker == p && s.word == e) return s;
        }
        return null;
    }

    private void sayingLine(boolean unsure) {
        room(unsure ? draft.unsures : draft.sayings.size(), unsure ? 4 : 14);
        int p = talker();
        int e = word();
        Saying s = saying(draft, p, e);
        if (unsure) {
            if (s != null && s.other != null) throw wrong(3);
            if (s == null) throw wrong(7);
            at++;
            s.other = whole(0, 40);
            s.unsureNumber = draft.unsures++;
            return;
        }
        if (s != null) throw wrong(3);
        at++;
        expect("times");
        s = new Saying();
        s.speaker = p;
        s.word = e;
        s.times = whole(1, 40);
        draft.sayings.add(s);
    }

    int feed(String twenty) {
        if (tape.length() + 20 > 900) return -1;
        tape.append(twenty);
        return tape.length();
    }

    int house(int n) {
        if (n < 0 || n > tape.length()) throw new Refusal(2);
        String text = tape.substring(0, n);
        tape.setLength(0);
        try {
            home = parse(text);
        } catch (Fault f) {
            fault = f.number;
            place = f.place;
            throw new Refusal(4);
        }
        fault = 0;
        time = new Time();
        for (int e = 0; e < home.words.size(); e++) {
            time.in.put(e, 0);
            time.said.put(e, 0);
        }
        undos.clear();
        images.clear();
        return home.words.size();
    }

    int where() {
        return trouble == 4 ? place : -1;
    }

    // ---- what is asked ahead of an answer

    private void needHouse() {
        if (home == null) throw new Refusal(1);
    }

    private Word need(int e) {
        if (home == null || e < 0 || e >= home.words.size()) throw new Refusal(1);
        return home.words.get(e);
    }

    private void needSpeaker(int p) {
        if (home == null || p < 0 || p >= home.speakers.size()) throw new Refusal(1);
    }

    private static void need(int value, int least, int most) {
        if (value < least || value > most) throw new Refusal(2);
    }

    private void needIn(int e) {
        if (!time.in.containsKey(e)) throw new Refusal(5);
    }

    static int bits(Iterable<Integer> some) {
        int bits = 0;
        for (int e : some) bits += 1 << e;
        return bits;
    }

    private static Set<Integer> set(int bits) {
        Set<Integer> some = new TreeSet<>();
        for (int k = 0; k < 8; k++) {
            if ((bits >> k & 1) == 1) some.add(k);
        }
        return some;
    }

    // ---- now

    int entry(int e, int what) {
        Word w = need(e);
        if (what < 0 || what > 6) throw new Refusal(1);
        List<Integer> explained = new ArrayList<>();
        for (int o = 0; o < home.words.size(); o++) {
            for (Set<Integer> m : home.words.get(o).meanings) {
                if (m.contains(e) && !explained.contains(o)) explained.add(o);
            }
        }
        int[] told = {w.rent, time.in.containsKey(e) ? 1 : 0, time.in.getOrDefault(e, 0), time.said.get(e),
            w.meanings.size(), bits(w.rhymes), bits(explained)};
        return told[what];
    }

    int meaning(int e, int k) {
        Word w = need(e);
        if (k < 0 || k >= w.meanings.size()) throw new Refusal(1);
        return bits(w.meanings.get(k));
    }

    int speaker(int p, int what) {
        needSpeaker(p);
        if (what == 0) return List.of("pedant", "child", "sailor").indexOf(home.kinds.get(p));
        if (what != 1) throw new Refusal(1);
        Set<Integer> says = new TreeSet<>();
        for (Saying s : home.sayings) {
            if (s.speaker == p) says.add(s.word);
        }
        return bits(says);
    }

    private int said(Saying s, int year, int others) {
        int times = s.other != null && (others >> s.unsureNumber & 1) == 1 ? s.other : s.times;
        return switch (home.kinds.get(s.speaker)) {
            case "pedant" -> times;
            case "child" -> times > year - 1 ? times - year + 1 : 0;
            default -> year % 2 == 0 ? times + times : 0;
        };
    }

    int saysIn(int p, int e, int year) {
        needSpeaker(p);
        need(e);
        need(year, 1, 99);
        Saying s = saying(home, p, e);
        return s == null ? 0 : said(s, year, 0);
    }

    private int usesOf(Time t, int e, int year, Set<Integer> silent, int others) {
        int sum = t.said.get(e);
        for (Saying s : home.sayings) {
            if (s.word == e && !silent.contains(s.speaker)) sum += said(s, year, others);
        }
        return sum;
    }

    int uses(int e, int year) {
        need(e);
        need(year, 1, 99);
        return usesOf(time, e, year, Set.of(), 0);
    }

    private boolean paysIn(Time t, int e, int year, Set<Integer> silent, int others) {
        int lack = home.words.get(e).rent - usesOf(t, e, year, silent, others);
        if (lack <= 0) return true;
        for (int o : home.words.get(e).rhymes) {
            int above = usesOf(t, o, year, silent, others) - home.words.get(o).rent;
            if (t.in.containsKey(o) && above >= lack) return true;
        }
        return false;
    }

    int pays(int e, int year) {
        need(e);
        need(year, 1, 99);
        needIn(e);
        return paysIn(time, e, year, Set.of(), 0) ? 1 : 0;
    }

    int lodgers() {
        needHouse();
        return bits(time.in.keySet());
    }

    int debtors() {
        needHouse();
        List<Integer> some = new ArrayList<>();
        for (int e : time.in.keySet()) {
            if (!paysIn(time, e, time.gone + 1, Set.of(), 0)) some.add(e);
        }
        return bits(some);
    }

    // ---- years

    private boolean standsIn(int e, Set<Integer> in) {
        List<Set<Integer>> meanings = home.words.get(e).meanings;
        return meanings.isEmpty() || meanings.stream().anyMatch(in::containsAll);
    }

    /** Those who go when those put out have gone, over and over. */
    private void fall(Set<Integer> in) {
        while (in.removeIf(e -> !standsIn(e, new HashSet<>(in)))) {
            continue;
        }
    }

    private int pass(Time t, Set<Integer> silent, int others) {
        t.gone++;
        int before = bits(t.in.keySet());
        Map<Integer, Integer> next = new HashMap<>();
        for (int e : t.in.keySet()) {
            int behind = paysIn(t, e, t.gone, silent, others) ? 0 : t.in.get(e) + 1;
            if (behind <= home.grace) next.put(e, behind);
        }
        Set<Integer> staying = new TreeSet<>(next.keySet());
        fall(staying);
        next.keySet().retainAll(staying);
        t.in = next;
        return before - bits(staying);
    }

    private int passMoody(Time t) {
        Set<Integer> silent = new TreeSet<>();
        for (int p = 0; p < home.speakers.size(); p++) {
            t.seed = (75 * t.seed + 74) % 65537;
            if (t.seed % 100 < home.mood) silent.add(p);
        }
        return pass(t, silent, 0);
    }

    private Time ahead(int n) {
        Time t = time.copy();
        for (int y = 0; y < n; y++) pass(t, Set.of(), 0);
        return t;
    }

    int after(int n) {
        needHouse();
        need(n, 0, 60);
        return bits(ahead(n).in.keySet());
    }

    int outIn(int e) {
        need(e);
        Time t = time.copy();
        for (int n = 0; n <= 60; n++) {
            if (!t.in.containsKey(e)) return n;
            pass(t, Set.of(), 0);
        }
        return -2;
    }

    int emptyIn() {
        needHouse();
        Time t = time.copy();
        for (int n = 0; n <= 60; n++) {
            if (t.in.isEmpty()) return n;
            pass(t, Set.of(), 0);
        }
        return -2;
    }

    private Set<Integer> gone(Set<Integer> putOut) {
        Set<Integer> in = new TreeSet<>(time.in.keySet());
        in.removeAll(putOut);
        fall(in);
        Set<Integer> out = new TreeSet<>(time.in.keySet());
        out.removeAll(in);
        return out;
    }

    int pillar() {
        needHouse();
        int best = -2;
        int most = -1;
        for (int e : new TreeSet<>(time.in.keySet())) {
            if (gone(Set.of(e)).size() - 1 > most) {
                most = gone(Set.of(e)).size() - 1;
                best = e;
            }
        }
        return best;
    }

    int goWith(int e) {
        need(e);
        needIn(e);
        return bits(gone(Set.of(e)));
    }

    int keep(int e) {
        need(e);
        needIn(e);
        for (int more = 0; more <= 99; more++) {
            Time t = time.copy();
            t.said.merge(e, more, Integer::sum);
            for (int y = 0; y < 20; y++) pass(t, Set.of(), 0);
            if (t.in.containsKey(e)) return more;
        }
        return -2;
    }

    int dearest() {
        needHouse();
        int best = -2;
        int most = -1;
        for (int e : new TreeSet<>(time.in.keySet())) {
            int more = keep(e);
            if (more > most) {
                most = more;
                best = e;
            }
        }
        return best;
    }

    // ---- rings

    private Set<Integer> grounded(Set<Integer> shown) {
        Set<Integer> ground = new TreeSet<>(shown);
        boolean more = true;
        while (more) {
            more = false;
            for (int e : time.in.keySet()) {
                if (standsIn(e, ground) && ground.add(e)) more = true;
            }
        }
        return ground;
    }

    int rings() {
        needHouse();
        Set<Integer> ringed = new TreeSet<>(time.in.keySet());
        ringed.removeAll(grounded(Set.of()));
        return bits(ringed);
    }

    private int fewest(boolean fell) {
        needHouse();
        for (int count = 0; count <= 8; count++) {
            for (int some = 0; some < 256; some++) {
                Set<Integer> chosen = set(some);
                if (chosen.size() != count || !time.in.keySet().containsAll(chosen)) continue;
                Set<Integer> reached = fell ? gone(chosen) : grounded(chosen);
                if (reached.equals(time.in.keySet())) return some;
            }
        }
        throw new IllegalStateException();
    }

    int point() {
        return fewest(false);
    }

    int fell() {
        return fewest(true);
    }

    /** By relaxing all depths until none becomes less. */
    int depth(int e) {
        need(e);
        int far = 99;
        int[] deep = new int[8];
        for (int k = 0; k < 8; k++) deep[k] = far;
        for (int round = 0; round < 20; round++) {
            for (int k : time.in.keySet()) {
                if (home.words.get(k).meanings.isEmpty()) deep[k] = 0;
                for (Set<Integer> m : home.words.get(k).meanings) {
                    int deepest = 0;
                    for (int by : m) deepest = Math.max(deepest, deep[by]);
                    deep[k] = Math.min(deep[k], deepest + 1);
                }
            }
        }
        return deep[e] >= far ? -2 : deep[e];
    }

    private void climb(int e, Set<Integer> met) {
        for (Set<Integer> m : home.words.get(e).meanings) {
            for (int by : m) {
                if (met.add(by)) climb(by, met);
            }
        }
    }

    int roots(int e) {
        need(e);
        Set<Integer> met = new TreeSet<>();
        climb(e, met);
        return bits(met);
    }

    int circular(int e) {
        return roots(e) >> e & 1;
    }

    // ---- nearness

    int apart(int e, int other) {
        List<Set<Integer>> ones = new ArrayList<>(need(e).meanings);
        List<Set<Integer>> others = new ArrayList<>(need(other).meanings);
        if (ones.isEmpty()) ones.add(Set.of());
        if (others.isEmpty()) others.add(Set.of());
        int least = 99;
        for (Set<Integer> a : ones) {
            for (Set<Integer> b : others) {
                Set<Integer> both = new TreeSet<>(a);
                both.retainAll(b);
                least = Math.min(least, a.size() + b.size() - 2 * both.size());
            }
        }
        return least;
    }

    int twins() {
        needHouse();
        int best = -2;
        int least = 99;
        for (int e = 0; e < home.words.size(); e++) {
            for (int o = e + 1; o < home.words.size(); o++) {
                if (apart(e, o) < least) {
                    least = apart(e, o);
                    best = 10 * e + o;
                }
            }
        }
        return best;
    }

    private int[][] chimes() {
        int n = home.words.size();
        int[][] far = new int[n][n];
        for (int a = 0; a < n; a++) {
            for (int b = 0; b < n; b++) far[a][b] = a == b ? 0 : home.words.get(a).rhymes.contains(b) ? 1 : 99;
        }
        for (int k = 0; k < n; k++) {
            for (int a = 0; a < n; a++) {
                for (int b = 0; b < n; b++) far[a][b] = Math.min(far[a][b], far[a][k] + far[k][b]);
            }
        }
        return far;
    }

    int chime(int e, int other) {
        need(e);
        need(other);
        int far = chimes()[e][other];
        return far >= 99 ? -2 : far;
    }

    int families() {
        needHouse();
        int[][] far = chimes();
        Set<Integer> firsts = new TreeSet<>();
        for (int a = 0; a < far.length; a++) {
            int first = 0;
            while (far[a][first] >= 99) first++;
            firsts.add(first);
        }
        return firsts.size();
    }

    // ---- unsure sayings

    /** The year, of the first 15, in which each goes out. */
    Integer[] leaving(int others) {
        Time t = new Time();
        for (int e = 0; e < home.words.size(); e++) {
            t.in.put(e, 0);
            t.said.put(e, 0);
        }
        Integer[] out = new Integer[home.words.size()];
        for (int y = 1; y <= 15; y++) {
            for (int e : set(pass(t, Set.of(), others))) out[e] = y;
        }
        return out;
    }

    private List<Integer> fitting() {
        needHouse();
        List<Integer> sets = new ArrayList<>();
        for (int others = 0; others < 1 << home.unsures; others++) {
            Integer[] out = leaving(others);
            boolean fit = true;
            for (int e = 0; e < out.length; e++) {
                Integer left = home.words.get(e).left;
                if (left != null && !left.equals(out[e])) fit = false;
            }
            if (fit) sets.add(others);
        }
        return sets;
    }

    int fits() {
        return fitting().size();
    }

    int fitAt(int i) {
        List<Integer> sets = fitting();
        if (i < 0 || i >= sets.size()) throw new Refusal(1);
        return sets.get(i);
    }

    int could() {
        return fitting().stream().reduce(0, (a, b) -> a | b);
    }

    int surely() {
        List<Integer> sets = fitting();
        return sets.isEmpty() ? 0 : sets.stream().reduce(15, (a, b) -> a & b);
    }

    private int[] asking() {
        List<Integer> sets = fitting();
        int[] best = {-2, -2};
        if (sets.isEmpty()) return best;
        for (int u = home.unsures - 1; u >= 0; u--) {
            int bit = u;
            int with = (int) sets.stream().filter(s -> (s >> bit & 1) == 1).count();
            int left = Math.max(with, sets.size() - with);
            if (best[0] == -2 || left <= best[1]) best = new int[] {u, left};
        }
        return best;
    }

    int ask() {
        return asking()[0];
    }

    int askLeaves() {
        return asking()[1];
    }

    int judge() {
        needHouse();
        Integer[] out = leaving(0);
        for (int e = 0; e < out.length; e++) {
            Integer left = home.words.get(e).left;
            if (left != null && !left.equals(out[e])) return e;
        }
        return -2;
    }

    // ---- two pedants

    private static int[] shares(int ink, int one, int other) {
        int[][][] table = {{{2, 2}, {0, 4}}, {{4, 0}, {1 - ink, 1 - ink}}};
        return table[one][other];
    }

    int mends(int ink, boolean one, boolean other, boolean ofOther) {
        needHouse();
        need(ink, 0, 9);
        return shares(ink, one ? 1 : 0, other ? 1 : 0)[ofOther ? 1 : 0];
    }

    private List<Integer> restsBy(int ink) {
        needHouse();
        need(ink, 0, 9);
        List<Integer> found = new ArrayList<>();
        for (int one = 0; one < 2; one++) {
            for (int other = 0; other < 2; other++) {
                int[] has = shares(ink, one, other);
                boolean better = shares(ink, 1 - one, other)[0] > has[0] || shares(ink, one, 1 - other)[1] > has[1];
                if (!better) found.add(10 * one + other);
            }
        }
        return found;
    }

    int rests(int ink) {
        return restsBy(ink).size();
    }

    int rest(int ink) {
        List<Integer> found = restsBy(ink);
        return found.isEmpty() ? -2 : found.get(0);
    }

    // ---- moods

    private static long part(long upper, long whole, boolean lower) {
        BigInteger common = BigInteger.valueOf(upper).gcd(BigInteger.valueOf(whole));
        return BigInteger.valueOf(lower ? whole : upper).divide(common).longValueExact();
    }

    private long chance(int silent) {
        long product = 1;
        for (int p = 0; p < home.speakers.size(); p++) product *= (silent >> p & 1) == 1 ? home.mood : 100 - home.mood;
        return product;
    }

    private long all() {
        return (long) Math.pow(100, home.speakers.size());
    }

    long odds(int e, boolean lower) {
        need(e);
        needIn(e);
        long sum = 0;
        for (int silent = 0; silent < 1 << home.speakers.size(); silent++) {
            if (paysIn(time, e, time.gone + 1, set(silent), 0)) sum += chance(silent);
        }
        return part(sum, all(), lower);
    }

    long mean(int e, boolean lower) {
        need(e);
        long sum = 0;
        for (int silent = 0; silent < 1 << home.speakers.size(); silent++) {
            sum += chance(silent) * usesOf(time, e, time.gone + 1, set(silent), 0);
        }
        return part(sum, all(), lower);
    }

    long stays(int e, boolean lower) {
        need(e);
        long sum = 0;
        for (int silent = 0; silent < 1 << home.speakers.size(); silent++) {
            Time t = time.copy();
            pass(t, set(silent), 0);
            if (t.in.containsKey(e)) sum += chance(silent);
        }
        return part(sum, all(), lower);
    }

    int moody(int seed, int n) {
        needHouse();
        need(seed, 0, 65536);
        need(n, 0, 60);
        Time t = time.copy();
        t.seed = seed;
        for (int y = 0; y < n; y++) passMoody(t);
        return bits(t.in.keySet());
    }

    int firstOut(int seed, int n) {
        needHouse();
        need(seed, 0, 65536);
        need(n, 0, 60);
        Time t = time.copy();
        t.seed = seed;
        for (int y = 1; y <= n; y++) {
            if (passMoody(t) != 0) return y;
        }
        return -2;
    }

    // ---- acts

    private void act() {
        undos.addLast(time.copy());
        if (undos.size() > 16) undos.removeFirst();
    }

    int year(boolean moody) {
        needHouse();
        if (time.gone == 99) throw new Refusal(3);
        act();
        return moody ? passMoody(time) : pass(time, Set.of(), 0);
    }

    int say(int e, int n) {
        need(e);
        need(n, 1, 20);
        if (time.said.get(e) + n > 99) throw new Refusal(3);
        act();
        return time.said.merge(e, n, Integer::sum);
    }

    int evict(int e) {
        need(e);
        needIn(e);
        act();
        Set<Integer> out = gone(Set.of(e));
        time.in.keySet().removeAll(out);
        return bits(out);
    }

    int take(int e) {
        need(e);
        if (time.in.containsKey(e)) throw new Refusal(5);
        if (!standsIn(e, time.in.keySet())) throw new Refusal(6);
        act();
        time.in.put(e, 0);
        return 1;
    }

    int seed(int v) {
        needHouse();
        need(v, 0, 65536);
        time.seed = v;
        return 1;
    }

    int undo() {
        if (undos.isEmpty()) throw new Refusal(6);
        time = undos.removeLast();
        return 1;
    }

    int image() {
        needHouse();
        if (images.size() == 3) throw new Refusal(3);
        images.add(time.copy());
        return images.size() - 1;
    }

    int back(int image) {
        if (image < 0 || image >= images.size()) throw new Refusal(1);
        time = images.get(image).copy();
        undos.clear();
        return 1;
    }

    // ---- what is told

    /** -7 where an exception is due. */
    int led(int i) {
        List<Integer> out = new ArrayList<>();
        for (int e = 0; home != null && e < home.words.size(); e++) {
            if (!time.in.containsKey(e)) out.add(e);
        }
        return i < 0 || i >= out.size() ? -7 : out.get(i);
    }

    int size(int what) {
        if (what < 0 || what > 13) return -1;
        if (what == 13) return tape.length();
        if (home == null) return 0;
        int[] told = {home.grace, home.mood, home.words.size(), home.meanings, home.rhymes, home.speakers.size(),
            home.sayings.size(), home.unsures, home.lefts, time.gone, (int) time.seed, undos.size(), images.size()};
        return told[what];
    }
}
