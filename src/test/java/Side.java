import java.util.EnumSet;
import java.util.Map;
import java.util.Set;

/** The sides of an object that calls can see; a call may change only those that the document says. */
enum Side {
    FRACTION {
        void look(Subject x, StringBuilder seen) {
            fraction(x, seen);
        }
    },
    TEXTS {
        void look(Subject x, StringBuilder seen) {
            faults(x, seen);
            long many = x.ask("feed", "0", "0", "0", "0", "0");
            seen.append(" tape ").append(many);
            long taken = x.ask("study", many < 0 ? "900" : String.valueOf(many - 20));
            faults(x, seen);
            if (taken >= 0) {
                told(x, seen);
            }
        }
    },
    BOARD {
        void look(Subject x, StringBuilder seen) {
            board(x, seen);
            for (int bottom = 2; bottom < 9; bottom++) {
                for (int top = 1; top < bottom; top++) {
                    visit(x, seen, top, bottom);
                }
            }
            visit(x, seen, 1, 201);
            visit(x, seen, 1, 202);
            visit(x, seen, 1, 9999);
            visit(x, seen, 9998, 9999);
        }
    },
    /** What the TOURS do, and all behind each MARK; it is seen by going there. */
    PATH {
        void look(Subject x, StringBuilder seen) {
            long left = 0;
            while (left >= 0) {
                seen.append(" live ").append(x.ask("live", "3"));
                told(x, seen);
                x.ask("here");
                fraction(x, seen);
                left = x.ask("undo");
                seen.append(" MARKS ").append(left);
                board(x, seen);
            }
        }
    },
    TRAYS {
        void look(Subject x, StringBuilder seen) {
            for (int tray = 0; tray < 4; tray++) {
                seen.append(" TRAY ").append(tray);
                boolean more = true;
                for (int place = 0; more; place++) {
                    long number = x.ask("read", "" + tray, "" + place);
                    more = number != -1 || x.ask("status") == 0;
                    seen.append(' ').append(more ? "" + number : "no more " + x.ask("status"));
                }
                x.ask("write", "" + tray, "0", "81985529216486895");
                seen.append(" cut ").append(x.ask("read", "" + tray, "0"));
            }
            for (int from = 0; from < 4; from++) {
                for (int to = 0; to < from; to++) {
                    x.ask("pour", "" + from, "0", "" + to, "0", "0");
                    seen.append(' ').append(x.ask("status"));
                }
            }
        }
    },
    LIVED {
        void look(Subject x, StringBuilder seen) {
            for (int what = 0; what < 5; what++) {
                seen.append(' ').append(x.ask("lived", "" + what));
            }
        }
    };

    private static final Map<String, Set<Side>> CHANGED_BY = Map.ofEntries(
        Map.entry("tray", EnumSet.of(TRAYS)), Map.entry("write", EnumSet.of(TRAYS)),
        Map.entry("pour", EnumSet.of(TRAYS)), Map.entry("copyPins", EnumSet.of(TRAYS)),
        Map.entry("feed", EnumSet.of(TEXTS)), Map.entry("study", EnumSet.of(TEXTS, BOARD, PATH)),
        Map.entry("tours", EnumSet.of(TEXTS, PATH)),
        Map.entry("go", EnumSet.of(BOARD, PATH)), Map.entry("up", EnumSet.of(BOARD, PATH)),
        Map.entry("flip", EnumSet.of(BOARD, PATH)), Map.entry("jump", EnumSet.of(BOARD, PATH)),
        Map.entry("rule", EnumSet.of(BOARD, PATH)), Map.entry("pin", EnumSet.of(BOARD, PATH)),
        Map.entry("lift", EnumSet.of(BOARD, PATH)),
        Map.entry("live", EnumSet.of(BOARD, PATH, LIVED)),
        Map.entry("mark", EnumSet.of(PATH)), Map.entry("undo", EnumSet.of(BOARD, PATH)));

    abstract void look(Subject x, StringBuilder seen);

    /** What an answered call may change; those not listed ask only, and may tell a FRACTION. */
    static Set<Side> changedBy(String name) {
        Set<Side> none = EnumSet.noneOf(Side.class);
        Set<Side> asked = Subject.answersBoolean(name) ? EnumSet.of(FRACTION) : none;
        return CHANGED_BY.getOrDefault(name, asked);
    }

    private static void fraction(Subject x, StringBuilder seen) {
        seen.append(' ').append(x.ask("top")).append('/').append(x.ask("bottom"));
    }

    private static void faults(Subject x, StringBuilder seen) {
        seen.append(" fault ").append(x.ask("fault", "0")).append('@').append(x.ask("fault", "1"));
    }

    private static void told(Subject x, StringBuilder seen) {
        seen.append(" told");
        for (int what = 0; what < 7; what++) {
            seen.append(' ').append(x.ask("told", "" + what));
        }
    }

    private static void board(Subject x, StringBuilder seen) {
        told(x, seen);
        x.ask("here");
        fraction(x, seen);
        seen.append(" pins");
        for (int k = 0; x.ask("pinAt", "" + k) == 1; k++) {
            String top = "" + x.ask("top");
            String bottom = "" + x.ask("bottom");
            seen.append(' ').append(top).append('/').append(bottom);
            seen.append('*').append(x.ask("weight", top, bottom));
        }
    }

    private static void visit(Subject x, StringBuilder seen, int top, int bottom) {
        seen.append(' ').append(x.ask("wasAt", "" + top, "" + bottom));
    }
}
