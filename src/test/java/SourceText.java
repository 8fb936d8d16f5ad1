import java.io.IOException;
import java.nio.file.Files;
import java.nio.file.Path;
import java.util.LinkedHashMap;
import java.util.Map;
import java.util.regex.Matcher;
import java.util.regex.Pattern;

/** The program's text, and what stands in it, as the tests are run from the project's root. */
final class SourceText {
    static final Path PROGRAM = Path.of("src/main/java/ScopeRow.java");
    /** A method or a constructor, of the class itself or of one inside it: its indentation, name and body. */
    private static final Pattern METHOD = Pattern.compile(
        "^( {4}| {8})(?:[\\w\\[\\]]+ )*(\\w+)\\(([^(){};]*)\\)\\s*(?:throws [\\w, ]+)?\\{\\n(.*?)^\\1\\}",
        Pattern.MULTILINE | Pattern.DOTALL);

    private SourceText() {
    }

    /** Nothing, if there is none: the test of it fails by that. */
    static String of(Path path) {
        try {
            return Files.readString(path);
        } catch (IOException e) {
            return "";
        }
    }

    /** Without comments, and without what its texts say. */
    static String bare(String text) {
        return text.replaceAll("\"[^\"\\n]*\"", "\"\"").replaceAll("(?s)/\\*.*?\\*/", "").replaceAll("//[^\\n]*", "");
    }

    /** Name and bodies of all methods; those of one name stand together. */
    static Map<String, String> methods(String bareText) {
        Map<String, String> methods = new LinkedHashMap<>();
        Matcher found = METHOD.matcher(bareText);
        while (found.find()) {
            methods.merge(found.group(2), found.group(4), String::concat);
        }
        return methods;
    }

    static int longestMethod(String text) {
        int longest = 0;
        Matcher found = METHOD.matcher(text);
        while (found.find()) {
            longest = Math.max(longest, found.group().split("\n").length);
        }
        return longest;
    }
}
