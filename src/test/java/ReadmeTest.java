import java.io.IOException;
import java.lang.reflect.InvocationTargetException;
import java.lang.reflect.Method;
import java.lang.reflect.Modifier;
import java.nio.file.Files;
import java.nio.file.Path;
import java.util.ArrayList;
import java.util.List;
import java.util.Map;
import java.util.TreeMap;
import java.util.regex.Matcher;
import java.util.regex.Pattern;

/** What README.md tells of the calls is true: its examples, and the exceptions in its tables. */
public final class ReadmeTest {
    private static final Check CHECK = new Check();
    private static String stateAfterCommit = "";

    private static final String MADE = "LockManager m = new LockManager();";
    private static final Pattern CALL = Pattern.compile("m\\.(\\w+)\\((.*)\\); +// ([^:]+)(:.*)?");
    private static final Pattern TEXT = Pattern.compile("`(b0;[^`]+)`");
    private static final Pattern ROW = Pattern.compile("\\| `(\\w+)\\((.*?)\\)` \\|.*\\|(.*)\\|");
    private static final Pattern EXCEPTION = Pattern.compile("`(\\w+Exception)`");

    public static void main(String[] args) throws IOException, IllegalAccessException {
        List<String> lines = Files.readAllLines(Path.of("README.md"));
        CHECK.due("the calls of the examples", 40, tryExamples(lines));
        compareText(String.join(" ", lines));
        compareTables(lines);
        CHECK.end();
    }

    // ---- the examples

    private static int tryExamples(List<String> lines) throws IllegalAccessException {
        LockManager m = null;
        boolean inExample = false;
        int calls = 0;
        for (String line : lines) {
            if (line.startsWith("```")) {
                inExample = line.equals("```java");
            } else if (inExample && line.equals(MADE)) {
                m = new LockManager();
            } else if (inExample) {
                tryCall(m, line);
                calls++;
                if (line.startsWith("m.commit(")) {
                    stateAfterCommit = Snapshot.stateOf(m);
                }
            }
        }
        return calls;
    }

    private static void tryCall(LockManager m, String line) throws IllegalAccessException {
        Matcher call = CALL.matcher(line);
        if (m == null || !call.matches()) {
            CHECK.fault("README.md has a line that is no call with an answer: " + line);
            return;
        }
        String due = call.group(3).startsWith("throws ") ? call.group(3) : "" + number(call.group(3));
        CHECK.due(line, due, answer(m, call.group(1), call.group(2)));
    }

    private static String answer(LockManager m, String name, String arguments) throws IllegalAccessException {
        List<Object> numbers = new ArrayList<>();
        for (String argument : arguments.isEmpty() ? new String[0] : arguments.split(", ")) {
            numbers.add(number(argument));
        }
        for (Method method : LockManager.class.getDeclaredMethods()) {
            if (Modifier.isPublic(method.getModifiers()) && method.getName().equals(name)) {
                return answer(m, method, numbers.toArray());
            }
        }
        return "there is no call " + name;
    }

    private static String answer(LockManager m, Method method, Object[] numbers) throws IllegalAccessException {
        try {
            return method.invoke(m, numbers).toString();
        } catch (InvocationTargetException e) {
            return "throws " + e.getCause().getClass().getSimpleName();
        }
    }

    /** A constant of the class, a character or a number. */
    private static int number(String word) throws IllegalAccessException {
        String name = word.replace("LockManager.", "");
        if (name.matches("[A-Z]+")) {
            try {
                return LockManager.class.getField(name).getInt(null);
            } catch (NoSuchFieldException e) {
                CHECK.fault("README.md names a constant that there is not: " + word);
                return 0;
            }
        }
        return name.matches("'.'") ? name.charAt(1) : Integer.parseInt(name);
    }

    /** README.md says that its text does what the calls up to commit do. */
    private static void compareText(String readme) {
        Matcher text = TEXT.matcher(readme);
        String state = text.find() ? Snapshot.stateOf(Setup.ran(text.group(1))) : "no text";
        CHECK.due("the state after the text", stateAfterCommit, state);
    }

    // ---- the tables

    private static void compareTables(List<String> lines) {
        Map<String, String> rows = rowsOfCalls(lines);
        for (Method method : LockManager.class.getDeclaredMethods()) {
            if (Modifier.isPublic(method.getModifiers())) {
                List<String> thrown = new ArrayList<>();
                for (Class<?> exception : method.getExceptionTypes()) {
                    thrown.add(exception.getSimpleName());
                }
                String name = method.getName() + "/" + method.getParameterCount();
                String told = rows.remove(name);
                CHECK.due("the row of " + name, thrown.toString(), told == null ? "no row" : told);
            }
        }
        CHECK.due("rows of calls that there are not", "{}", rows.toString());
    }

    private static Map<String, String> rowsOfCalls(List<String> lines) {
        Map<String, String> rows = new TreeMap<>();
        for (String line : lines) {
            Matcher row = ROW.matcher(line);
            if (row.matches()) {
                String parameters = row.group(2);
                int count = parameters.isEmpty() ? 0 : parameters.split(", ").length;
                String before = rows.put(row.group(1) + "/" + count, exceptionsIn(row.group(3)));
                CHECK.due("rows of " + row.group(1), 1, before == null ? 1 : 2);
            }
        }
        return rows;
    }

    private static String exceptionsIn(String cell) {
        List<String> names = new ArrayList<>();
        Matcher exception = EXCEPTION.matcher(cell);
        while (exception.find()) {
            names.add(exception.group(1));
        }
        return names.toString();
    }
}
