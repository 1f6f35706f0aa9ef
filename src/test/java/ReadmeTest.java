import java.lang.reflect.InvocationTargetException;
import java.lang.reflect.Method;
import java.nio.file.Files;
import java.nio.file.Path;
import java.util.regex.Matcher;
import java.util.regex.Pattern;

/** README.md tells of each call of its example what it answers: it must be so. */
public final class ReadmeTest {
    private static final Pattern CALL = Pattern.compile("^(?:x\\.(\\w+)\\((.*)\\)|tell\\(x, (.*)\\)); +// (-?\\d+|true)\\b.*$",
        Pattern.MULTILINE);
    private static final Check CHECK = new Check();

    public static void main(String[] args) throws Exception {
        String page = Files.readString(Path.of("README.md"));
        String text = page.substring(page.indexOf("```text\n") + 8);
        text = text.substring(0, text.indexOf("```")).replace('\n', ' ');
        WordHouse x = new WordHouse();
        int calls = 0;
        Matcher m = CALL.matcher(page);
        while (m.find()) {
            calls++;
            long got = m.group(1) == null
                ? Check.house(x, m.group(3).equals("TEXT") ? text : m.group(3).replace("\"", ""))
                : answer(x, m.group(1), m.group(2).isEmpty() ? new String[0] : m.group(2).split(", "));
            CHECK.due(m.group(), got, m.group(4).equals("true") ? 1 : Long.parseLong(m.group(4)));
        }
        Matcher told = Pattern.compile("; +// ").matcher(page);
        CHECK.due("calls with an answer", calls, told.results().count());
        CHECK.due("there are many", calls > 30, true);
        CHECK.end();
    }

    private static long answer(WordHouse x, String name, String[] told) throws IllegalAccessException, InvocationTargetException {
        for (Method m : WordHouse.class.getMethods()) {
            if (!m.getName().equals(name) || m.getParameterCount() != told.length) continue;
            Object[] given = new Object[told.length];
            for (int k = 0; k < told.length; k++) {
                given[k] = m.getParameterTypes()[k] == boolean.class
                    ? (Object) Boolean.valueOf(told[k]) : (Object) Integer.valueOf(told[k]);
            }
            Object got = m.invoke(x, given);
            return got instanceof Boolean answer ? (answer ? 1 : 0) : ((Number) got).longValue();
        }
        throw new IllegalStateException("no such call: " + name);
    }
}
