import java.io.IOException;
import java.lang.reflect.InvocationTargetException;
import java.lang.reflect.Method;
import java.nio.file.Files;
import java.nio.file.Path;
import java.util.ArrayList;
import java.util.List;
import java.util.StringJoiner;
import java.util.regex.Matcher;
import java.util.regex.Pattern;

/**
 * What README.md says of calls and answers: each call of its Java blocks answers, or throws, what stands behind it, and
 * its table names the methods, their parameters and exceptions as the document does. It is run from the project's
 * directory.
 */
public final class ReadmeTest {
    private static final Pattern MADE = Pattern.compile("FuseRows rows = new FuseRows\\(\\);");
    private static final Pattern TYPED = Pattern.compile("for \\(char sign : \"([^\"]*)\"\\.toCharArray\\(\\)\\) \\{");
    private static final Pattern CALLED = Pattern.compile("rows\\.(\\w+)\\(([^)]*)\\); +// (-?[\\w.]+)(:.*)?");
    private static final Pattern ROW_OF_TABLE = Pattern.compile("\\| (\\d+) \\| `(.*)` \\| (u?) ?\\| (.*)\\| (.*)\\|");
    private static final Pattern PROMISE = Pattern.compile("## Promise (\\d+): .*");
    private static final int PROMISES = 26;

    public static void main(String[] args) throws IOException {
        List<String> lines = Files.readAllLines(Path.of("README.md"));
        blocks(lines);
        table(lines);
        Check.end();
    }

    // ---- calls

    private static void blocks(List<String> lines) {
        FuseRows rows = null;
        boolean inside = false;
        int blocks = 0;
        for (int n = 0; n < lines.size(); n++) {
            String line = lines.get(n);
            if (line.startsWith("```")) {
                inside = line.equals("```java");
                blocks += inside ? 1 : 0;
                rows = null;
            } else if (inside && MADE.matcher(line).matches()) {
                rows = new FuseRows();
            } else if (inside) {
                n += carryOut(rows, lines, n);
            }
        }
        Check.due("Java blocks in README.md", blocks, 3);
    }

    /** Returns how many further lines belong to the one at n. */
    private static int carryOut(FuseRows rows, List<String> lines, int n) {
        String line = lines.get(n);
        Matcher typed = TYPED.matcher(line);
        Matcher called = CALLED.matcher(line);
        if (rows != null && typed.matches() && lines.get(n + 1).equals("    rows.append(sign);")
                && lines.get(n + 2).equals("}")) {
            Check.type(rows, typed.group(1));
            return 2;
        }
        boolean known = rows != null && called.matches();
        Check.holds("README.md has a line that the test doesn't know: " + line, known);
        if (known) {
            String answer = answerOf(rows, called.group(1), called.group(2));
            Check.holds(line.strip() + " .. answered " + answer, answer.equals(called.group(3)));
        }
        return 0;
    }

    private static String answerOf(FuseRows rows, String name, String arguments) {
        String[] texts = arguments.isEmpty() ? new String[0] : arguments.split(", ");
        Object[] values = new Object[texts.length];
        for (int i = 0; i < texts.length; i++) {
            values[i] = texts[i].matches("true|false") ? (Object) Boolean.valueOf(texts[i]) : Integer.valueOf(texts[i]);
        }
        try {
            return String.valueOf(methodOf(name).invoke(rows, values));
        } catch (InvocationTargetException e) {
            return e.getCause().getClass().getSimpleName();
        } catch (IllegalAccessException e) {
            return "no access";
        }
    }

    private static Method methodOf(String name) {
        for (Method method : FuseRows.class.getMethods()) {
            if (method.getName().equals(name)) {
                return method;
            }
        }
        throw new IllegalStateException("README.md calls a method that is not there: " + name);
    }

    // ---- the table

    private static void table(List<String> lines) throws IOException {
        List<String> promises = promises();
        int promise = 0;
        for (String line : lines) {
            Matcher row = ROW_OF_TABLE.matcher(line);
            if (!row.matches()) {
                continue;
            }
            promise++;
            Check.due("the number in " + line, Integer.parseInt(row.group(1)), promise);
            String text = promise <= promises.size() ? promises.get(promise - 1) : "";
            Check.holds(line + " .. due is " + callIn(text), row.group(2).equals(callIn(text)));
            Check.holds(line + " .. is undoable or not", row.group(3).equals("u") == text.contains("Undoable"));
            Check.holds(line + " .. throws " + thrownIn(text), row.group(5).strip().equals(thrownIn(text)));
        }
        Check.due("rows of the table in README.md", promise, PROMISES);
    }

    /** The text of each promise of the document, in order. */
    private static List<String> promises() throws IOException {
        List<String> promises = new ArrayList<>();
        StringBuilder text = null;
        for (String line : Files.readAllLines(Path.of("..", "shared", "DOC.md"))) {
            if (line.startsWith("## ") && text != null) {
                promises.add(text.toString());
                text = null;
            }
            if (PROMISE.matcher(line).matches()) {
                text = new StringBuilder();
            } else if (text != null) {
                text.append(line).append('\n');
            }
        }
        return promises;
    }

    /** The call of a promise, as the table writes it: without types, and with new if it makes an object. */
    private static String callIn(String promise) {
        Matcher call = Pattern.compile("`(\\w+ )?(\\w+)\\((.*?)\\).*`").matcher(promise);
        if (!call.find()) {
            return "";
        }
        StringJoiner parameters = new StringJoiner(", ", "(", ")");
        for (String parameter : call.group(3).isEmpty() ? new String[0] : call.group(3).split(", ")) {
            parameters.add(parameter.substring(parameter.indexOf(' ') + 1));
        }
        return (call.group(1) == null ? "new " : "") + call.group(2) + parameters;
    }

    private static String thrownIn(String promise) {
        StringJoiner thrown = new StringJoiner(", ");
        Matcher clause = Pattern.compile("Throws `(\\w+)`").matcher(promise);
        while (clause.find()) {
            switch (clause.group(1)) {
                case "IndexOutOfBoundsException" -> add(thrown, "index");
                case "IllegalArgumentException" -> add(thrown, "argument");
                default -> add(thrown, "state");
            }
        }
        return thrown.toString();
    }

    private static void add(StringJoiner thrown, String word) {
        if (!thrown.toString().contains(word)) {
            thrown.add(word);
        }
    }
}
