import java.io.IOException;
import java.lang.reflect.Field;
import java.lang.reflect.Method;
import java.lang.reflect.Modifier;
import java.nio.file.Files;
import java.nio.file.Path;
import java.util.List;
import java.util.Map;
import java.util.Set;
import java.util.TreeMap;
import java.util.regex.Matcher;
import java.util.regex.Pattern;

/**
 * The rules of ../shared/LANGUAGE.md that can be seen from the text of the class. It is run from the project's
 * directory. What it can't see (bounds of loops, indexes) is left to the reader.
 */
public final class LanguageTest {
    private static final String[] RULED_OUT = {
        "->", "::", "\\bimport\\b", "\\bpackage\\b", "\\bfinally\\b", "\\bcatch\\b", "\\bsynchronized\\b",
        "\\bassert\\b", "\\bprotected\\b", "\\bDouble\\b", "\\bFloat\\b", "\\bBoolean\\b", "\\bCharacter\\b",
        "\\bObject\\b", "\\bObjects\\b", "\\bString\\.", "\\bequals\\b", "\\bhashCode\\b", "\\btoString\\b",
        "\\bstatic\\s*\\{", "Exact\\b", "\\bjava\\.", "\\bThread\\b", "\\bSystem\\.(?!arraycopy\\b)",
        "\\bMath\\.(?!max\\b|min\\b|abs\\b|floorMod\\b|floorDiv\\b)", "\\bInteger\\.(?!bitCount\\b)", "[^\\x00-\\x7e]"};

    private static final Pattern START = Pattern.compile("^( {4}| {8})(?:[\\w\\[\\]]+ )*(\\w+)\\([^()]*\\)[^;]*$");
    private static final Pattern CALL = Pattern.compile("(\\w+)\\(");
    private static final Set<String> NO_CALLS = Set.of("if", "for", "while", "switch", "return", "catch");
    private static final int MOST_CALLS = 8;

    public static void main(String[] args) throws IOException {
        List<String> lines = Files.readAllLines(Path.of("src", "main", "java", "FuseRows.java"));
        for (int n = 0; n < lines.size(); n++) {
            String code = codeOf(lines.get(n));
            for (String ruledOut : RULED_OUT) {
                Check.holds("line " + (n + 1) + " has " + ruledOut + ": " + code,
                        !Pattern.compile(ruledOut).matcher(code).find());
            }
        }
        thrown(lines);
        Map<String, String> bodies = new TreeMap<>();
        for (int n = 0; n < lines.size(); n++) {
            method(lines, n, bodies);
        }
        Check.holds("methods found: " + bodies.size(), bodies.size() > 80);
        for (String name : bodies.keySet()) {
            int depth = depth(name, bodies, 0);
            Check.holds(name + " goes " + depth + " calls deep", depth <= MOST_CALLS);
        }
        sizes(FuseRows.class);
        Check.due("classes inside", FuseRows.class.getDeclaredClasses().length, 4);
        for (Class<?> inside : FuseRows.class.getDeclaredClasses()) {
            sizes(inside);
        }
        Check.end();
    }

    /** The line without comments and without what stands in texts. */
    private static String codeOf(String line) {
        String bare = line.strip();
        if (bare.startsWith("*") || bare.startsWith("/*") || bare.startsWith("//")) {
            return "";
        }
        return bare.replaceAll("\"[^\"]*\"", "\"\"");
    }

    private static void thrown(List<String> lines) {
        Pattern right = Pattern.compile(
                "throw new (IllegalState|IllegalArgument|IndexOutOfBounds)Exception\\(\"[^\"]*\"\\);");
        for (String line : lines) {
            if (codeOf(line).matches(".*\\bthrow\\b.*")) {
                Check.holds("thrown otherwise: " + line, right.matcher(line).find());
            }
        }
    }

    /**
     * Rule 11: a method that begins at this line has at most sixty lines. It begins with a name and "(", and ends with
     * "}", at the same depth. Its body goes into the map.
     */
    private static void method(List<String> lines, int n, Map<String, String> bodies) {
        Matcher start = START.matcher(lines.get(n));
        if (!start.find() || lines.get(n).endsWith(";")) {
            return;
        }
        StringBuilder body = new StringBuilder();
        int length = 1;
        while (n + length < lines.size() && !lines.get(n + length).startsWith(start.group(1) + "}")) {
            body.append(codeOf(lines.get(n + length))).append('\n');
            length++;
        }
        Check.holds("line " + (n + 1) + " begins a method of " + length + " lines", length <= 60);
        // The calls are told apart by their names alone.
        Check.holds(start.group(2) + " is the name of two methods",
                bodies.put(start.group(2), body.toString()) == null);
    }

    /** How many calls stand open at once in this method; a call of the library counts as one. */
    private static int depth(String name, Map<String, String> bodies, int above) {
        int deepest = 0;
        Matcher call = CALL.matcher(bodies.getOrDefault(name, ""));
        while (call.find() && above <= MOST_CALLS) {
            if (!NO_CALLS.contains(call.group(1))) {
                deepest = Math.max(deepest, depth(call.group(1), bodies, above + 1));
            }
        }
        return deepest + 1;
    }

    /** Rule 11: at most seven parameters a method, some twenty fields a class beside its constants. */
    private static void sizes(Class<?> type) {
        int fields = 0;
        for (Field field : type.getDeclaredFields()) {
            fields += Modifier.isStatic(field.getModifiers()) ? 0 : 1;
        }
        Check.holds(type + " has " + fields + " fields", fields <= 20);
        for (Method method : type.getDeclaredMethods()) {
            Check.holds(method + " has at most seven parameters", method.getParameterCount() <= 7);
        }
    }
}
