import java.io.IOException;
import java.nio.file.Files;
import java.nio.file.Path;
import java.util.ArrayList;
import java.util.List;
import java.util.Map;
import java.util.Set;
import java.util.TreeMap;
import java.util.TreeSet;
import java.util.regex.Matcher;
import java.util.regex.Pattern;

/** DOC.md: which of its sentences the tests quote, and which STATUS it names for each call. */
final class Document {
    private static final String TEXT = read();
    private static final boolean[] QUOTED = new boolean[TEXT.length()];
    private static String latest = "";

    private Document() {
    }

    private static String read() {
        try {
            return Files.readString(Path.of("../shared/DOC.md")).replaceAll("\\s+", " ");
        } catch (IOException e) {
            throw new IllegalStateException(e);
        }
    }

    /** What is tested from now on; it must stand in the document, word by word. */
    static void says(String... quotes) {
        for (String quote : quotes) {
            int at = TEXT.indexOf(quote);
            Check.due("the document says: " + quote, at >= 0, true);
            for (; at >= 0; at = TEXT.indexOf(quote, at + 1)) {
                java.util.Arrays.fill(QUOTED, at, at + quote.length(), true);
            }
        }
        latest = quotes[0];
    }

    static String quoted() {
        return "[" + latest + "] ";
    }

    /** The STATUS in the last brackets of each promise. */
    static Map<String, Set<Integer>> refusals() {
        Map<String, Set<Integer>> all = new TreeMap<>();
        Matcher promise = Pattern.compile("## Promise \\d+: (.*?) (`.*?)(?= ## )").matcher(TEXT);
        while (promise.find()) {
            Set<Integer> status = new TreeSet<>();
            Matcher last = Pattern.compile(".*\\(([^()]*)\\)[^()]*").matcher(
                promise.group(2).replaceAll("`[^`]*`", ""));
            if (last.matches()) {
                for (String part : last.group(1).split("[;,]")) {
                    Matcher number = Pattern.compile(" ?([1-9])(:.*)?").matcher(part);
                    if (number.matches()) {
                        status.add(Integer.valueOf(number.group(1)));
                    }
                }
            }
            all.put(promise.group(1), status);
        }
        return all;
    }

    /** What no test quotes of the Terms and the promises, but for headings and the calls' heads. */
    static List<String> unquoted() {
        Set<Integer> skipped = new TreeSet<>();
        Matcher plain = Pattern.compile("## Promise 1: A new object|## Promise \\d+: \\w+"
            + "|```(text)?|`[^`]*`|==== \\d\\.|Ahead of the calls .*?: ---- [^.]*\\.|## Terms")
            .matcher(TEXT);
        while (plain.find()) {
            for (int i = plain.start(); i < plain.end(); i++) {
                skipped.add(i);
            }
        }
        List<String> left = new ArrayList<>();
        StringBuilder part = new StringBuilder();
        int to = TEXT.indexOf("## Not promised");
        for (int i = TEXT.indexOf("## Terms"); i <= to; i++) {
            if (i < to && !QUOTED[i] && !skipped.contains(i)) {
                part.append(TEXT.charAt(i));
            } else {
                if (part.toString().matches(".*[A-Za-z0-9].*")) {
                    left.add(part.toString().strip());
                }
                part.setLength(0);
            }
        }
        return left;
    }
}
