import java.io.IOException;
import java.lang.reflect.InvocationTargetException;
import java.lang.reflect.Method;
import java.nio.file.Files;
import java.nio.file.Path;
import java.util.HashMap;
import java.util.List;
import java.util.Map;
import java.util.regex.Matcher;
import java.util.regex.Pattern;

/**
 * README.md says how to use the class: its example is run line by line, against the answers that
 * it tells, and every call of the face has a row in its table.
 */
public final class ReadmeTest extends Checks {
    private static final Pattern CALL = Pattern.compile(
            "(?:int (?<name>\\w+) = )?judge\\.(?<call>\\w+)\\((?<given>[^)]*)\\);\\s*(?://(?<told>.*))?");
    /** A comment that begins with a number, or with true or false, tells the answer. */
    private static final Pattern ANSWER = Pattern.compile("\\s*(?<due>-?\\d+|true|false)\\b.*");
    private static final String FIRST_LINE = "HistoryJudge judge = new HistoryJudge();";

    private final HistoryJudge judge = new HistoryJudge();
    private final Map<String, Object> named = new HashMap<>();
    private int compared = 0;

    private static Method method(String name) {
        for (Method m : HistoryJudge.class.getMethods()) {
            if (m.getName().equals(name) && m.getDeclaringClass() == HistoryJudge.class) {
                return m;
            }
        }
        throw new AssertionError("README.md calls what is not there: " + name);
    }

    private Object value(String text) {
        if (text.equals("true") || text.equals("false")) {
            return Boolean.valueOf(text);
        }
        return named.containsKey(text) ? named.get(text) : Integer.valueOf(text);
    }

    private Object[] values(String given) {
        if (given.isEmpty()) {
            return new Object[0];
        }
        String[] texts = given.split(", ");
        Object[] values = new Object[texts.length];
        for (int i = 0; i < texts.length; i++) {
            values[i] = value(texts[i]);
        }
        return values;
    }

    private Object answer(Matcher call) {
        try {
            return method(call.group("call")).invoke(judge, values(call.group("given")));
        } catch (InvocationTargetException e) {
            return e.getCause();
        } catch (IllegalAccessException e) {
            throw new AssertionError(e);
        }
    }

    private void run(String line) {
        Matcher call = CALL.matcher(line);
        if (!call.matches()) {
            fault("README.md: not a call: " + line);
            return;
        }
        Object got = answer(call);
        if (got instanceof Throwable) {
            fault("README.md: " + line + " threw " + got);
        }
        if (call.group("name") != null) {
            named.put(call.group("name"), got);
        }
        Matcher told = ANSWER.matcher(call.group("told") == null ? "" : call.group("told"));
        if (told.matches()) {
            due("README.md: " + line + ", the same", true, told.group("due").equals("" + got));
            compared++;
        }
    }

    private void runExample(List<String> readme) {
        int from = readme.indexOf("```java");
        due("README.md: an example, begun with a new object", true,
                from >= 0 && readme.get(from + 1).equals(FIRST_LINE));
        for (int i = from + 2; i < readme.size() && !readme.get(i).equals("```"); i++) {
            if (!readme.get(i).isBlank()) {
                run(readme.get(i));
            }
        }
        due("README.md: the example tells answers", true, compared >= 10);
    }

    private static void checkTable(List<String> readme) {
        for (Method m : HistoryJudge.class.getMethods()) {
            if (m.getDeclaringClass() == HistoryJudge.class) {
                String row = "| `" + m.getName() + "(";
                due("README.md: a row for " + m.getName(), true,
                        readme.stream().anyMatch(line -> line.startsWith(row)));
            }
        }
    }

    public static void main(String[] args) throws IOException {
        List<String> readme = Files.readAllLines(Path.of("README.md"));
        new ReadmeTest().runExample(readme);
        checkTable(readme);
        due("README.md: how to run the tests", true, readme.contains("    .ci/run"));
        close();
    }
}
