import java.nio.file.Files;
import java.nio.file.Path;
import java.util.List;
import java.util.regex.Matcher;
import java.util.regex.Pattern;

/** Looks in the source for what LANGUAGE.md rules out. */
public final class LanguageTest {
    private static final List<String> BANNED = List.of("throw", "throws", "try", "catch",
        "finally", "synchronized", "assert", "volatile", "transient", "native", "import",
        "package", "double", "float", "->", "::", "var", "Object", "equals", "hashCode",
        "toString", "protected", "@", "Random", "Thread", "null", "instanceof", "sealed",
        "interface", "yield");
    private static final List<String> LIBRARY = List.of("Math.max", "Math.min",
        "System.arraycopy");

    public static void main(String[] args) throws Exception {
        String source = Files.readString(Path.of(args[0]));
        for (int i = 0; i < source.length(); i++) {
            char c = source.charAt(i);
            if (c != '\n' && (c < 32 || c > 126)) {
                Check.due("a sign at " + i + " of the source", c, ' ');
            }
        }
        String code = source.replaceAll("(?s)/\\*.*?\\*/", " ").replaceAll("//[^\n]*", " ");
        Matcher texts = Pattern.compile("\"[^\"]*\"").matcher(code);
        String bare = texts.replaceAll("\"\"").replaceAll("'[^']'", "' '");
        for (String word : BANNED) {
            String pattern = Character.isLetter(word.charAt(0)) ? "\\b" + word + "\\b"
                : Pattern.quote(word);
            Check.due("'" + word + "' in the source",
                Pattern.compile(pattern).matcher(bare).find(), false);
        }
        Check.due("a static block", Pattern.compile("static\\s*\\{").matcher(bare).find(), false);
        Check.due("texts joined by +", Pattern.compile("\"\\s*\\+|\\+\\s*\"").matcher(bare).find(),
            false);
        Matcher calls = Pattern.compile("\\b(Math|System|Integer|Long|Arrays|String|List)\\.\\w+")
            .matcher(bare);
        while (calls.find()) {
            Check.due(calls.group() + " of the library", LIBRARY.contains(calls.group()), true);
        }
        newInConstructorsAlone(bare);
        methodLengths(bare);
        Check.end();
    }

    /** No call makes an object: what is made stands in a constructor or a field's first value. */
    private static void newInConstructorsAlone(String bare) {
        String method = "";
        for (String line : bare.split("\n")) {
            Matcher head = Pattern.compile("^ {4}(?: {4})?((?:\\w+ )*)(\\w+)\\(.*\\{$").matcher(line);
            if (head.find()) {
                method = head.group(1).contains(" ") ? head.group(2) : "";
            }
            if (line.matches("^ {4}(?: {4})?}$")) {
                method = "";
            }
            boolean constructs = method.isEmpty() || Character.isUpperCase(method.charAt(0));
            Check.due("new in " + method, line.contains("new ") && !constructs, false);
        }
    }

    private static void methodLengths(String bare) {
        int begun = -1;
        String[] lines = bare.split("\n");
        for (int i = 0; i < lines.length; i++) {
            if (lines[i].matches("^ {4}(?: {4})?\\w.*\\) \\{$") && !lines[i].contains(" class ")) {
                begun = i;
            }
            if (begun >= 0 && lines[i].matches("^ {4}(?: {4})?}$")) {
                Check.due("lines from " + begun + " on are more than sixty", i - begun > 60, false);
                begun = -1;
            }
        }
    }
}
