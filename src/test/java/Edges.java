import java.util.ArrayList;
import java.util.EnumMap;
import java.util.EnumSet;
import java.util.List;
import java.util.Map;
import java.util.Set;
import java.util.TreeMap;
import java.util.TreeSet;
import java.util.regex.Matcher;
import java.util.regex.Pattern;

/**
 * Runs of calls on new objects, told as texts, a line a call:
 * <pre>
 *   go(0)                      it is answered (STATUS 0)
 *   go(0) = 1                  .. with 1
 *   here() = 1/3               .. and the FRACTION is 1 by 3
 *   up() ! 6                   it is refused with STATUS 6, and nothing else changes
 *   study{odds 3;} = 0         the text is fed, and study() called with its length
 *   study{odds x;} ! 9 2@5     a FAULT 2 in the place 5; only the tape, and what fault() tells, change
 *   feed{odds 3;}              the text is fed, with zeros behind it to a whole feed
 * </pre>
 * Behind every line with a due answer the object is compared with another one that went the same
 * way without that line: only what the document lets the call change may differ.
 */
abstract class Edges {
    private static final Pattern CALL =
        Pattern.compile("(\\w+)\\(([^)]*)\\)(?: ([=!]) (\\S+)(?: (\\d)@(\\d+))?)?");
    private static final Pattern TEXT = Pattern.compile(
        "(study|tours|feed)\\{(.*)\\}(?: ([=!]) (\\S+)(?: (\\d)@(\\d+))?)?", Pattern.DOTALL);
    private static final Set<String> WITHOUT_STATUS =
        Set.of("status", "top", "bottom", "feed", "fault");
    /** Which STATUS each call was refused with. */
    static final Map<String, Set<Integer>> REFUSED = new TreeMap<>();
    /** Something on every side but the tape: what a refused call must not change. */
    static final String[] CLEAR = {
        "tray(0, 0, 3)", "write(0, 0, 1)", "write(0, 2, -7)", "tray(1, 1, 6)", "write(1, 5, 300)",
        "tray(2, 3, 2)", "write(2, 1, 77)",
        "study{order 7; odds 9; here 2 by 5; pin 1 by 3 weight 8; pin 6 by 7;}",
        "tours{left;pin 3;any;when pinned;order 9;end;}",
        "go(1)", "mark()", "flip()", "pin(3, 4, 20)", "mark()", "live(5)", "study{odds 4} ! 9",
        "fraction(3)"};
    static final String[] FULL = with(CLEAR, "feed{order 8; odds 2;    }");
    private static String[] base = {};

    private record Line(String whole, String name, String[] numbers, String text, String sign,
        String due, String fault) {
        static Line of(String whole) {
            Matcher call = CALL.matcher(whole);
            if (call.matches()) {
                String inside = call.group(2);
                return new Line(whole, call.group(1),
                    inside.isEmpty() ? new String[0] : inside.split(","), null, call.group(3),
                    call.group(4), faultOf(call));
            }
            Matcher text = TEXT.matcher(whole);
            if (!text.matches()) {
                throw new IllegalStateException("no such line: " + whole);
            }
            return new Line(whole, text.group(1), null, text.group(2), text.group(3),
                text.group(4), faultOf(text));
        }

        private static String faultOf(Matcher line) {
            return line.group(5) == null ? null : line.group(5) + "@" + line.group(6);
        }

        long ask(Subject x) {
            return text == null ? x.ask(name, numbers) : x.askText(name, text);
        }

        boolean isRefused() {
            return "!".equals(sign);
        }

        boolean hasStatus() {
            return !WITHOUT_STATUS.contains(name);
        }

        int status() {
            return isRefused() ? Integer.parseInt(due) : 0;
        }

        Set<Side> mayChange() {
            if (isRefused()) {
                return status() == 9 ? EnumSet.of(Side.TEXTS) : EnumSet.noneOf(Side.class);
            }
            boolean fullTape = name.equals("feed") && "-1".equals(due);
            return fullTape ? EnumSet.noneOf(Side.class) : Side.changedBy(name);
        }
    }

    static String[] with(String[] lines, String... more) {
        List<String> all = new ArrayList<>(List.of(lines));
        all.addAll(List.of(more));
        return all.toArray(new String[0]);
    }

    static void says(String... quotes) {
        Document.says(quotes);
    }

    /** All runs behind this begin with these lines. */
    static void from(String... lines) {
        base = lines;
    }

    static void run(String... more) {
        List<Line> lines = new ArrayList<>();
        for (String line : base) {
            lines.add(Line.of(line));
        }
        for (String line : more) {
            lines.add(Line.of(line));
        }
        Subject x = new Subject();
        Map<Side, String> seen = null;
        for (int i = 0; i < lines.size(); i++) {
            Line line = lines.get(i);
            boolean compares = line.sign != null && i >= base.length;
            if (compares && seen == null) {
                seen = look(lines.subList(0, i));
            }
            one(x, line);
            Map<Side, String> now = compares ? look(lines.subList(0, i + 1)) : null;
            if (compares) {
                compare(line, seen, now);
            }
            seen = now;
        }
    }

    private static void one(Subject x, Line line) {
        String call = Document.quoted() + line.whole;
        long before = line.hasStatus() ? 0 : x.ask("status");
        long got = line.ask(x);
        Check.due(call + ": STATUS", x.ask("status"), line.hasStatus() ? line.status() : before);
        if (line.isRefused()) {
            REFUSED.computeIfAbsent(line.name, n -> new TreeSet<>()).add(line.status());
            Check.due(call, got, Subject.answersBoolean(line.name) ? 0 : -1);
        } else if (line.due != null && line.due.contains("/")) {
            Check.due(call, got, 1);
            Check.due(call, x.ask("top") + "/" + x.ask("bottom"), line.due);
        } else if (line.due != null) {
            Check.due(call, String.valueOf(got), line.due.replace("true", "1"));
        }
        if (line.fault != null) {
            Check.due(call, x.ask("fault", "0") + "@" + x.ask("fault", "1"), line.fault);
        }
    }

    private static Map<Side, String> look(List<Line> lines) {
        Map<Side, String> seen = new EnumMap<>(Side.class);
        for (Side side : Side.values()) {
            Subject x = new Subject();
            lines.forEach(line -> line.ask(x));
            StringBuilder text = new StringBuilder();
            side.look(x, text);
            seen.put(side, text.toString());
        }
        return seen;
    }

    private static void compare(Line line, Map<Side, String> seen, Map<Side, String> now) {
        if (line.text != null && !line.name.equals("feed")) {
            Check.due(Document.quoted() + line.whole + ": the tape is empty then",
                now.get(Side.TEXTS).contains(" tape 20 "), true);
        }
        Set<Side> free = line.mayChange();
        for (Side side : Side.values()) {
            if (!free.contains(side)) {
                Check.due(Document.quoted() + line.whole + ": " + side + " stays", now.get(side),
                    seen.get(side));
            }
        }
    }

    /** A number ('#' in the call) from 'least' to 'most' is answered; others are refused with 1. */
    static void range(String call, int least, int most) {
        for (int in : new int[] {least, least + 1, (least + most) / 2, most - 1, most}) {
            if (in >= least && in <= most) {
                run(call.replace("#", "" + in));
            }
        }
        for (int out : new int[] {least - 1, least - 2, Integer.MIN_VALUE, most + 1, most + 2,
            Integer.MAX_VALUE}) {
            run(call.replace("#", "" + out) + " ! 1");
        }
    }

    /** What is no VALUE ('#' in the call) is refused with 1; what is one, at the bounds, is not. */
    static void values(String call) {
        for (String none : new String[] {"0, 0", "1, 0", "-1, 0", "0, -1", "-1, 1", "-1, -2",
            "-2, -1", "2, 1", "3, 2", "-1, 9999", "10000, 9999", "0, 10000", "1, 10000",
            "9999, 10000", "10000, 10000", "MIN, 1", "MAX, 1", "0, MIN", "0, MAX", "1, MIN",
            "1, MAX", "MIN, MIN", "MAX, MAX", "MIN, 9999", "MAX, 9999", "-2147483647, MAX"}) {
            run(call.replace("#", none) + " ! 1");
        }
        for (String one : new String[] {"0, 1", "1, 1", "1, 2", "0, 9999", "1, 9999",
            "9998, 9999", "9999, 9999"}) {
            Subject x = new Subject();
            for (String line : base) {
                ask(x, line);
            }
            ask(x, call.replace("#", one));
            Check.due(Document.quoted() + one + " is a VALUE", x.ask("status") != 1, true);
        }
    }

    static void ask(Subject x, String line) {
        Line.of(line).ask(x);
    }

    /** Each of these lines is a run of its own. */
    static void each(String... lines) {
        for (String line : lines) {
            run(line);
        }
    }
}
