/** Promises 1 to 8: a new object, STATUS, the FRACTION, the TRAYS. */
final class EdgesOfTrays extends Edges {
    static void all() {
        newObject();
        statusAndFraction();
        whichTrays();
        sorts();
        writeAndRead();
        pour();
    }

    private static void newObject() {
        from();
        says(": A STUDY as without any PART; no TOURS, MARKS; TRAYS are MISSING; an empty tape; "
            + "the FRACTION 0 by 1; STATUS 0.");
        each("told(0) = 5", "told(1) = 4", "told(2) = 0", "told(3) = 0", "told(4) = 11",
            "told(5) = 1", "told(6) = 0", "here() = 1/2", "wasAt(1, 2) = 1", "wasAt(1, 3) = 0",
            "pinAt(0) ! 6", "live(0) ! 6", "mean(0, 1) ! 6", "lived(0) ! 6", "undo() ! 6",
            "mark() = 1", "read(0, 0) ! 2", "read(1, 0) ! 2", "read(2, 0) ! 2", "read(3, 0) ! 2",
            "study(0) = 0", "study(1) ! 1", "tours(0) = 0", "tours(1) ! 1",
            "feed(0, 0, 0, 0, 0) = 20", "top() = 0", "bottom() = 1", "status() = 0",
            "fault(0) = -1", "fault(1) = -1");
    }

    private static void statusAndFraction() {
        from(FULL);
        says(": STATUS of the latest call that has one.");
        run("told(7) ! 1", "status() = 1", "status() = 1", "told(0)", "status() = 0");
        run("pinAt(12) ! 6", "status() = 6");
        says("status(), top(), bottom(), feed(), fault() have none.");
        run("go(0)", "pin(1, 2, 0) ! 1", "top() = 1", "bottom() = 5", "fault(0) = 2",
            "fault(1) = 6", "fault(2) = -1", "feed(0, 0, 0, 0, 0) = 40", "status() = 1");
        run("feed{" + " ".repeat(880) + "}", "undo()", "undo()", "undo() ! 6",
            "feed(0, 0, 0, 0, 0) = -1", "status() = 6");
        says(": The top of the FRACTION told latest.", ": Its bottom, above 0.",
            "FRACTIONS are told by top() and bottom() without a common divisor, the bottom above 0; "
            + "0 is 0 by 1.");
        run("pin(2, 4, 6)", "here()", "share(1, 2) = 7/19", "top() = 7", "bottom() = 19");
        run("fraction(0) = 0/1", "nearest(0, 9999) = 0/1", "wrong(2, 3) = 0/1");
        run("nearest(9999, 9999) = 1/1", "nearest(4998, 9996) = 1/2", "part(200) = 1/1");
        run("pin(0, 9999, 1)", "pinAt(4) = 0/1", "pin(500, 1000, 1)", "pinAt(5) = 1/2");
        run("told(0)", "pin(1, 9, 1)", "go(1)", "up()", "rule(0, 3)", "undo()", "mark()",
            "top() = 1", "bottom() = 5");
        from();
        run("gap() = 1/1", "rule(1, 1)", "wrong(12, 12) = 1/281474976710656",
            "wrong(12, 0) = 1/1");
        from("rule(1, 15)");
        run("wrong(12, 12) = 129746337890625/281474976710656");
    }

    private static void whichTrays() {
        from(FULL);
        says("TRAYS 0 to 3 are MISSING at first, or rows of 0 to 60 numbers");
        range("tray(#, 0, 1)", 0, 3);
        range("tray(0, 0, #)", 0, 60);
        from();
        for (int tray = 0; tray < 4; tray++) {
            int other = 3 - tray;
            run("tray(" + other + ", 0, 60)",
                "read(" + tray + ", 0) ! 2", "write(" + tray + ", 0, 1) ! 2",
                "follow(" + tray + ", 0) ! 2", "copyPins(" + tray + ") ! 2",
                "pour(" + tray + ", 0, " + other + ", 0, 0) ! 2",
                "pour(" + other + ", 0, " + tray + ", 0, 0) ! 2",
                "pour(" + tray + ", 0, " + tray + ", 0, 0) ! 2");
        }
        for (int many : new int[] {0, 1, 59, 60}) {
            for (int sort = 0; sort < 4; sort++) {
                run("tray(1, " + sort + ", " + many + ") = true",
                    "read(1, " + many + ") ! 3", "write(1, " + many + ", 1) ! 3",
                    "read(1, -1) ! 3", "write(1, -1, 1) ! 3", "read(1, MAX) ! 3",
                    "read(1, MIN) ! 3", "write(1, MAX, 1) ! 3", "write(1, MIN, 1) ! 3");
                for (int place = 0; place < many; place += Math.max(1, many - 1)) {
                    run("tray(1, " + sort + ", " + many + ")", "read(1, " + place + ") = 0",
                        "write(1, " + place + ", 9) = true", "read(1, " + place + ") = 9");
                }
            }
        }
        says("no such TRAY");
        from(FULL);
        each("read(-1, 0) ! 1", "read(4, 0) ! 1", "read(MIN, 0) ! 1", "read(MAX, 0) ! 1",
            "write(-1, 0, 0) ! 1", "write(4, 0, 0) ! 1", "write(MIN, 0, 0) ! 1",
            "write(MAX, 0, 0) ! 1", "follow(-1, 0) ! 1", "follow(4, 0) ! 1", "copyPins(-1) ! 1",
            "copyPins(4) ! 1", "copyPins(MIN) ! 1", "copyPins(MAX) ! 1", "follow(MAX, 0) ! 1",
            "read(4, -1) ! 1", "read(-1, 60) ! 1", "write(4, 60, 0) ! 1");
    }

    private static void sorts() {
        says("of 8 bits (sort 0), 16 (1), 32 (2) or 64 (3).", "cut to its sort");
        from(FULL);
        range("tray(0, #, 1)", 0, 3);
        from();
        for (int sort = 0; sort < 3; sort++) {
            long half = 1L << (8 << sort) - 1;
            long[][] cuts = {{0, 0}, {1, 1}, {-1, -1}, {half - 1, half - 1}, {half, -half},
                {half + 1, 1 - half}, {-half, -half}, {-half - 1, half - 1}, {2 * half - 1, -1},
                {2 * half, 0}, {2 * half + 1, 1}, {Long.MAX_VALUE, -1}, {Long.MIN_VALUE, 0}};
            for (long[] cut : cuts) {
                run("tray(2, " + sort + ", 3)", "write(2, 1, " + cut[0] + ") = true",
                    "read(2, 1) = " + cut[1], "read(2, 0) = 0", "read(2, 2) = 0");
            }
        }
        for (String number : new String[] {"" + Long.MAX_VALUE, "" + Long.MIN_VALUE, "-1",
            "4294967296", "-2147483649"}) {
            run("tray(2, 3, 3)", "write(2, 1, " + number + ") = true", "read(2, 1) = " + number);
        }
    }

    private static void writeAndRead() {
        from(FULL);
        says(": A TRAY is a row of so many 0s (1).");
        run("tray(0, 0, 3) = true", "read(0, 0) = 0", "read(0, 1) = 0", "read(0, 2) = 0",
            "read(0, 3) ! 3");
        run("tray(0, 3, 60)", "write(0, 59, 5)", "tray(0, 3, 1)", "read(0, 1) ! 3",
            "tray(0, 3, 60)", "read(0, 59) = 0", "read(0, 0) = 0");
        run("tray(1, 0, 0) = true", "read(1, 0) ! 3", "tray(1, 4, 9) ! 1", "tray(1, 0, 61) ! 1",
            "read(1, 0) ! 3");
        says(": A number comes to a place of a TRAY, cut to its sort (1, 2, 3).");
        run("write(0, 2, 5) = true", "read(0, 2) = 5", "read(0, 0) = 1", "read(1, 2) = 0",
            "write(0, 3, 5) ! 3", "write(0, -1, 5) ! 3", "write(3, 0, 5) ! 2",
            "write(3, -1, 5) ! 2", "write(3, 99, 5) ! 2", "write(4, 0, 5) ! 1",
            "write(-1, 0, 5) ! 1");
        says(": The number in a place of a TRAY; STATUS tells NONE from -1 (1, 2, 3).");
        run("write(2, 0, -1)", "read(2, 0) = -1", "status() = 0", "read(2, 2) ! 3",
            "status() = 3", "read(2, 1) = 77", "read(3, 0) ! 2", "read(3, -1) ! 2",
            "read(3, 60) ! 2");
    }

    private static void pour() {
        says(": So many numbers of a TRAY, from a place on, come to another one's (or its own) "
            + "place on, as they were (1: below 0, too; 2; 8; 3; asked in this order).",
            "8 TRAYS are of unlike sorts.");
        from("tray(0, 2, 5)", "write(0, 0, 1)", "write(0, 1, 2)", "write(0, 2, 3)",
            "write(0, 3, 4)", "write(0, 4, 5)", "tray(1, 2, 4)", "write(1, 0, 9)",
            "tray(2, 1, 5)");
        // 1 ahead of 2, 8 and 3
        each("pour(-1, 0, 3, 0, 1) ! 1", "pour(4, 0, 3, 0, 1) ! 1", "pour(3, 0, -1, 0, 1) ! 1",
            "pour(3, 0, 4, 0, 1) ! 1", "pour(0, -1, 3, 0, 1) ! 1", "pour(0, 0, 3, -1, 1) ! 1",
            "pour(0, 0, 3, 0, -1) ! 1", "pour(0, -1, 2, 0, 1) ! 1", "pour(0, 0, 2, -1, 1) ! 1",
            "pour(0, 0, 2, 0, -1) ! 1", "pour(0, -1, 1, 9, 9) ! 1", "pour(0, 9, 1, -1, 9) ! 1",
            "pour(0, 9, 1, 9, -1) ! 1", "pour(0, MIN, 1, 0, 1) ! 1", "pour(0, 0, 1, MIN, 1) ! 1",
            "pour(0, 0, 1, 0, MIN) ! 1", "pour(MIN, 0, 1, 0, 1) ! 1", "pour(0, 0, MAX, 0, 1) ! 1",
            "pour(0, -1, 1, 0, 2) ! 1", "pour(0, 0, 0, 0, -1) ! 1");
        // 2 ahead of 8 and 3
        each("pour(0, 9, 3, 9, 9) ! 2", "pour(3, 9, 0, 9, 9) ! 2", "pour(3, 0, 3, 0, 0) ! 2",
            "pour(3, 0, 2, 0, 0) ! 2", "pour(2, 0, 3, 0, 0) ! 2");
        // 8 ahead of 3
        each("pour(0, 0, 2, 0, 1) ! 8", "pour(2, 0, 0, 0, 1) ! 8", "pour(0, 9, 2, 9, 9) ! 8",
            "pour(2, 9, 0, 9, 9) ! 8", "pour(0, 0, 2, 0, 0) ! 8");
        each("pour(0, 0, 0, 0, 5) = true", "pour(0, 0, 0, 0, 6) ! 3", "pour(0, 4, 0, 0, 1) = true",
            "pour(0, 4, 0, 0, 2) ! 3", "pour(0, 5, 0, 0, 1) ! 3", "pour(0, 0, 1, 0, 4) = true",
            "pour(0, 0, 1, 0, 5) ! 3", "pour(0, 0, 1, 3, 1) = true", "pour(0, 0, 1, 3, 2) ! 3",
            "pour(0, 0, 1, 4, 1) ! 3", "pour(1, 0, 0, 1, 4) = true", "pour(1, 0, 0, 0, 5) ! 3",
            "pour(1, 0, 0, 2, 4) ! 3", "pour(0, MAX, 1, 0, 1) ! 3", "pour(0, 0, 1, MAX, 1) ! 3",
            "pour(0, 0, 1, 0, MAX) ! 3", "pour(0, 1, 1, 0, MAX) ! 3", "pour(0, 0, 1, 1, MAX) ! 3",
            "pour(0, MAX, 1, MAX, MAX) ! 3", "pour(0, 5, 1, 4, 0) = true", "pour(0, 6, 1, 0, 0) ! 3",
            "pour(0, 0, 1, 5, 0) ! 3", "pour(0, 0, 0, 0, 0) = true");
        pours("pour(0, 0, 0, 1, 4)", 0, 1, 1, 2, 3, 4);
        pours("pour(0, 1, 0, 0, 4)", 0, 2, 3, 4, 5, 5);
        pours("pour(0, 0, 0, 0, 5)", 0, 1, 2, 3, 4, 5);
        pours("pour(0, 0, 0, 0, 0)", 0, 1, 2, 3, 4, 5);
        pours("pour(0, 0, 0, 4, 1)", 0, 1, 2, 3, 4, 1);
        pours("pour(0, 1, 1, 1, 2)", 1, 9, 2, 3, 0);
        pours("pour(0, 1, 1, 0, 4)", 1, 2, 3, 4, 5);
        pours("pour(0, 1, 1, 1, 2)", 0, 1, 2, 3, 4, 5);
        from();
        for (int sort = 0; sort < 4; sort++) {
            run("tray(0, " + sort + ", 60)", "tray(3, " + sort + ", 60)", "write(0, 0, -1)",
                "write(0, 59, 127)", "pour(0, 0, 3, 0, 60) = true", "read(3, 0) = -1",
                "read(3, 59) = 127", "pour(0, 0, 3, 0, 61) ! 3");
            for (int other = 0; other < 4; other++) {
                run("tray(0, " + sort + ", 2)", "tray(1, " + other + ", 2)",
                    "pour(0, 0, 1, 0, 1)" + (sort == other ? " = true" : " ! 8"));
            }
        }
    }

    private static void pours(String call, int tray, int... row) {
        String[] lines = new String[row.length + 1];
        lines[0] = call + " = true";
        for (int i = 0; i < row.length; i++) {
            lines[i + 1] = "read(" + tray + ", " + i + ") = " + row[i];
        }
        run(lines);
    }
}
