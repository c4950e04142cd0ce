import java.io.IOException;
import java.net.URL;
import java.net.URLClassLoader;
import java.nio.file.Files;
import java.nio.file.Path;
import java.util.ArrayList;
import java.util.List;
import java.util.TreeSet;
import java.util.regex.Matcher;
import java.util.regex.Pattern;
import java.util.stream.Stream;
import javax.tools.ToolProvider;

/** README.md: its calls answer as it says, and what it quotes and names is there. */
public final class ReadmeTest {
    private static final Pattern ASKED =
        Pattern.compile("(x\\.\\w+\\(.*\\));\\s+// -> (true|false|NONE|-?\\d+)\\b.*");
    private static final List<String> IMPORTS = new ArrayList<>();
    private static final List<String> MEMBERS = new ArrayList<>();
    private static final List<String> LINES = new ArrayList<>();
    private static final List<String> CALLS = new ArrayList<>();
    private static final List<String> DUES = new ArrayList<>();

    public static void main(String[] args) throws Exception {
        String readme = Files.readString(Path.of("README.md"));
        Matcher blocks = Pattern.compile("(?s)```java\n(.*?)```").matcher(readme);
        while (blocks.find()) {
            takeBlock(blocks.group(1));
        }
        Check.due("calls with an answer are shown", CALLS.size() > 40, true);
        compareAnswers();
        quotes(readme);
        names(readme);
        Check.end();
    }

    /** A block with a static method stands beside the calls, all others are one run of calls. */
    private static void takeBlock(String block) {
        boolean isMember = block.contains("\nstatic ");
        for (String line : block.split("\n")) {
            Matcher asked = ASKED.matcher(line);
            if (line.startsWith("import ")) {
                IMPORTS.add(line);
            } else if (isMember) {
                MEMBERS.add(line);
            } else if (asked.matches()) {
                LINES.add("answers.add(String.valueOf(" + asked.group(1) + "));");
                CALLS.add(asked.group(1));
                DUES.add(asked.group(2).equals("NONE") ? "" + FareyRank.NONE : asked.group(2));
            } else {
                Check.due("a line without an answer: " + line, line.contains("->"), false);
                LINES.add(line);
            }
        }
    }

    private static void compareAnswers() throws Exception {
        Path folder = Files.createTempDirectory("readme");
        try {
            List<?> answers = answers(folder);
            Check.due("how many answers", answers.size(), DUES.size());
            for (int i = 0; i < DUES.size() && i < answers.size(); i++) {
                Check.due("README: " + CALLS.get(i), answers.get(i).toString(), DUES.get(i));
            }
        } finally {
            delete(folder);
        }
    }

    private static List<?> answers(Path folder) throws Exception {
        Path source = folder.resolve("ReadmeCalls.java");
        List<String> text = new ArrayList<>(IMPORTS);
        text.add("public final class ReadmeCalls {");
        text.addAll(MEMBERS);
        text.add("public static java.util.List<String> answers() {");
        text.add("java.util.List<String> answers = new java.util.ArrayList<>();");
        text.addAll(LINES);
        text.add("return answers; } }");
        Files.write(source, text);
        int code = ToolProvider.getSystemJavaCompiler().run(null, null, null, "-cp",
            System.getProperty("java.class.path"), "-d", folder.toString(), source.toString());
        Check.due("the compiler's code for the calls of README", code, 0);
        if (code != 0) {
            return List.of();
        }
        try (URLClassLoader loader = new URLClassLoader(new URL[] {folder.toUri().toURL()})) {
            return (List<?>) loader.loadClass("ReadmeCalls").getMethod("answers").invoke(null);
        }
    }

    private static void delete(Path folder) throws IOException {
        try (Stream<Path> files = Files.list(folder)) {
            for (Path file : (Iterable<Path>) files::iterator) {
                Files.delete(file);
            }
        }
        Files.delete(folder);
    }

    /** What is set off as a quote stands in the document word by word. */
    private static void quotes(String readme) {
        List<String> quotes = new ArrayList<>();
        for (String line : readme.split("\n")) {
            if (line.startsWith("> ")) {
                quotes.add(line.substring(2));
            }
        }
        Check.due("how many quotes", quotes.size(), 2);
        Document.says(quotes.toArray(new String[0]));
    }

    /** All tests of the project are named, and no others; each path that is told is there. */
    private static void names(String readme) throws IOException {
        TreeSet<String> named = new TreeSet<>();
        Matcher tests = Pattern.compile("`(\\w+Test)`").matcher(readme);
        while (tests.find()) {
            named.add(tests.group(1));
        }
        TreeSet<String> there = new TreeSet<>();
        try (Stream<Path> files = Files.list(Path.of("src/test/java"))) {
            files.map(file -> file.getFileName().toString())
                .filter(file -> file.endsWith("Test.java"))
                .forEach(file -> there.add(file.replace(".java", "")));
        }
        Check.due("tests that README names", named.toString(), there.toString());
        Matcher paths = Pattern.compile("(?<=[ `])(\\.\\./shared|\\.ci|src)(/[\\w./]+)?(?=[ `\n])")
            .matcher(readme);
        while (paths.find()) {
            Check.due(paths.group() + " is there", Files.exists(Path.of(paths.group())), true);
        }
    }
}
