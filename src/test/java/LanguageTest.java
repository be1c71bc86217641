import java.io.IOException;
import java.nio.file.Files;
import java.nio.file.Path;
import java.util.List;
import java.util.regex.Matcher;
import java.util.regex.Pattern;

/**
 * The rules of ../shared/LANGUAGE.md that can be seen from the text of the class. It is run from the project's
 * directory. What it can't see (bounds of loops, indexes, the depth of calls) is left to the reader.
 */
public final class LanguageTest {
    private static final String[] RULED_OUT = {
        "->", "::", "\\bimport\\b", "\\bpackage\\b", "\\bfinally\\b", "\\bcatch\\b", "\\bsynchronized\\b",
        "\\bassert\\b", "\\bprotected\\b", "\\bDouble\\b", "\\bFloat\\b", "\\bBoolean\\b", "\\bCharacter\\b",
        "\\bObject\\b", "\\bObjects\\b", "\\bString\\.", "\\bequals\\b", "\\bhashCode\\b", "\\btoString\\b",
        "\\bstatic\\s*\\{", "Exact\\b", "\\bjava\\.", "\\bThread\\b", "\\bSystem\\.(?!arraycopy\\b)",
        "\\bMath\\.(?!max\\b|min\\b|abs\\b|floorMod\\b|floorDiv\\b)", "\\bInteger\\.(?!bitCount\\b)", "[^\\x00-\\x7e]"};

    public static void main(String[] args) throws IOException {
        List<String> lines = Files.readAllLines(Path.of("src", "main", "java", "FuseRows.java"));
        for (int n = 0; n < lines.size(); n++) {
            String code = codeOf(lines.get(n));
            for (String ruledOut : RULED_OUT) {
                Check.holds("line " + (n + 1) + " has " + ruledOut + ": " + code,
                        !Pattern.compile(ruledOut).matcher(code).find());
            }
        }
        thrown(lines);
        lengths(lines);
        Check.end();
    }

    /** The line without comments and without what stands in texts. */
    private static String codeOf(String line) {
        String bare = line.strip();
        if (bare.startsWith("*") || bare.startsWith("/*") || bare.startsWith("//")) {
            return "";
        }
        return bare.replaceAll("\"[^\"]*\"", "\"\"");
    }

    private static void thrown(List<String> lines) {
        Pattern right = Pattern.compile(
                "throw new (IllegalState|IllegalArgument|IndexOutOfBounds)Exception\\(\"[^\"]*\"\\);");
        for (String line : lines) {
            if (codeOf(line).matches(".*\\bthrow\\b.*")) {
                Check.holds("thrown otherwise: " + line, right.matcher(line).find());
            }
        }
    }

    /** Methods of some sixty lines; a method begins with a name and "(", and ends with "}", at the same depth. */
    private static void lengths(List<String> lines) {
        Pattern start = Pattern.compile("^( {4}| {8})[^ /*}].*\\(.*$");
        for (int n = 0; n < lines.size(); n++) {
            Matcher matcher = start.matcher(lines.get(n));
            if (!matcher.find() || lines.get(n).endsWith(";")) {
                continue;
            }
            String end = matcher.group(1) + "}";
            int length = 1;
            while (n + length < lines.size() && !lines.get(n + length).startsWith(end)) {
                length++;
            }
            Check.holds("line " + (n + 1) + " begins a method of " + length + " lines", length <= 60);
        }
    }
}
