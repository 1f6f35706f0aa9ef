import java.nio.file.Files;
import java.nio.file.Path;
import java.util.List;
import java.util.Map;
import java.util.Set;
import java.util.TreeMap;
import java.util.TreeSet;
import java.util.regex.Matcher;
import java.util.regex.Pattern;

/** The rules of LANGUAGE.md that can be seen in the source. */
public final class LanguageTest {
    private static final Path SOURCE = Path.of("src/main/java/WordHouse.java");
    private static final Check CHECK = new Check();

    /** A method begins with a line that opens a brace behind its parameters, and ends with one at its depth. */
    private static final Pattern HEAD =
        Pattern.compile("^( {4}| {8})(?! |for|if|while|switch|else|\\})[\\w\\[\\] ]*?(\\w+)\\(([^)]*)\\)[\\w ]* \\{$");

    public static void main(String[] args) throws Exception {
        List<String> lines = Files.readAllLines(SOURCE);
        StringBuilder code = new StringBuilder();
        for (String line : lines) code.append(bare(line)).append('\n');
        without(code, "->", "::", "\\bfinally\\b", "\\bsynchronized\\b", "\\bassert\\b", "Exact\\(", "\\bnull\\b",
            "\\bcatch\\b", "\\btry\\b", "\\binstanceof\\b", "\\bpackage\\b", "\\bprotected\\b", "\\bvar\\b", "\\byield\\b",
            "\\bdouble\\b", "\\bfloat\\b", "\\bString\\b", "static \\{", "\\bObject\\b", "\\bhashCode\\b", "\\bequals\\b",
            "System\\.(?!arraycopy)", "while \\(true\\)", "for \\(;;\\)", "\"");
        only(code, "import ([^;]+);", "java.util.NoSuchElementException");
        only(code, "throw ([^;]+);", "new NoSuchElementException()");
        only(code, "\\b(Integer|Math|Long|Arrays)\\.(\\w+)", "Integer.bitCount", "Math.max", "Math.min");
        statics(code);
        methods(lines);
        calls(lines);
        CHECK.end();
    }

    private static String bare(String line) {
        if (line.trim().startsWith("/**") || line.trim().startsWith("*") || line.trim().startsWith("//")) return "";
        int at = line.indexOf("//");
        return at < 0 ? line : line.substring(0, at);
    }

    private static void without(CharSequence code, String... patterns) {
        for (String pattern : patterns) {
            CHECK.due("the source has " + pattern, Pattern.compile(pattern).matcher(code).find(), false);
        }
    }

    private static void only(CharSequence code, String pattern, String... allowed) {
        Matcher m = Pattern.compile(pattern).matcher(code);
        while (m.find()) {
            String found = m.groupCount() == 1 ? m.group(1) : m.group();
            CHECK.due(found + " is allowed", List.of(allowed).contains(found), true);
        }
    }

    private static void statics(CharSequence code) {
        Matcher m = Pattern.compile("static (?!final class|final int|final long)[^(\\n]*[;=]").matcher(code);
        CHECK.due("a static field that is no constant", m.find(), false);
    }

    private static int end(List<String> lines, int head, String indent) {
        int end = head;
        while (end < lines.size() && !lines.get(end).equals(indent + "}")) end++;
        return end;
    }

    private static void methods(List<String> lines) {
        int longest = 0;
        int count = 0;
        for (int k = 0; k < lines.size(); k++) {
            Matcher m = HEAD.matcher(lines.get(k));
            if (!m.find()) continue;
            longest = Math.max(longest, end(lines, k, m.group(1)) - k + 1);
            count++;
            CHECK.due(lines.get(k) + " has few parameters", m.group(3).split(",").length <= 7, true);
        }
        CHECK.due("methods are found (" + count + ")", count > 100, true);
        CHECK.due("the longest method (" + longest + " lines)", longest <= 60, true);
    }

    /** Rules 8 and 11; methods of one name count as one, so what is found is too deep rather than not deep enough. */
    private static void calls(List<String> lines) {
        Map<String, Set<String>> called = new TreeMap<>();
        for (int k = 0; k < lines.size(); k++) {
            Matcher m = HEAD.matcher(lines.get(k));
            if (!m.find()) continue;
            Set<String> names = called.computeIfAbsent(m.group(2), name -> new TreeSet<>());
            for (int body = k + 1; body < end(lines, k, m.group(1)); body++) {
                Matcher call = Pattern.compile("(\\w+)\\(").matcher(bare(lines.get(body)));
                while (call.find()) names.add(call.group(1));
            }
        }
        for (String name : called.keySet()) {
            int deep = depth(called, name, 1);
            CHECK.due(name + " goes at most eight calls deep (" + deep + ")", deep <= 8, true);
        }
    }

    private static int depth(Map<String, Set<String>> called, String name, int open) {
        if (!called.containsKey(name) || open > 20) return open - 1;
        int deepest = open;
        for (String other : called.get(name)) deepest = Math.max(deepest, depth(called, other, open + 1));
        return deepest;
    }
}
