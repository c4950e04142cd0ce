/** Promises 59 and 60: MARKS; the order of STATUS; how many calls there may be. */
final class EdgesOfMarks extends Edges {
    static void all() {
        mark();
        undo();
        statusInOrder();
        calls();
    }

    private static void mark() {
        says("MARKS, at most 3: the STUDY with all that became of it, VISITED, the TOURS are kept as "
            + "they are;", ": A MARK more: how many there are (4).");
        from();
        run("mark() = 1", "mark() = 2", "mark() = 3", "mark() ! 4", "mark() ! 4", "undo() = 2",
            "mark() = 3", "mark() ! 4", "undo() = 2", "undo() = 1", "undo() = 0", "undo() ! 6",
            "mark() = 1");
        from(FULL);
        run("mark() = 3", "mark() ! 4", "go(0) = 6", "mark() ! 4", "undo() = 2", "told(6) = 5");
        // what a refused mark() would have kept is not kept
        run("mark()", "pin(1, 2, 9)", "mark() ! 4", "lift(1, 2)", "undo()", "weight(1, 2) ! 6",
            "told(2) = 4");
    }

    private static void undo() {
        says("all is taken back to the latest MARK, which is gone then.",
            ": All is taken back to the latest MARK: how many there are left (6).");
        from();
        run("undo() ! 6", "go(0)", "undo() ! 6", "told(6) = 1", "mark()", "go(0)", "undo() = 0",
            "told(6) = 1", "undo() ! 6", "told(6) = 1");
        from(with(CLEAR, "mark()"));
        run("rule(0, 9)", "undo() = 2", "told(0) = 7", "told(4) = 19");
        run("rule(1, 0)", "undo() = 2", "told(1) = 9", "wrong(1, 1) = 9/16");
        run("jump(1, 9999)", "undo() = 2", "here() = 6/11", "told(6) = 5", "wasAt(1, 9999) = 0",
            "told(5) = 5", "go(0) = 6", "here() = 7/13");
        run("pin(1, 9, 9)", "undo() = 2", "weight(1, 9) ! 6", "told(2) = 4");
        run("pin(1, 3, 9)", "undo() = 2", "weight(1, 3) = 8");
        run("lift(1, 3)", "undo() = 2", "weight(1, 3) = 8", "pinAt(0) = 1/3");
        run("live(1)", "undo() = 2", "told(2) = 4", "told(3) = 32", "told(5) = 5", "here() = 6/11");
        run("tours{up;} = 1", "undo() = 2", "live(0) = 4");
        run("study(0)", "undo() = 2", "told(0) = 7", "told(1) = 9", "told(2) = 4", "told(5) = 5",
            "here() = 6/11", "live(0) = 4");
        // one MARK behind another
        run("undo() = 2", "here() = 6/11", "undo() = 1", "here() = 4/7", "told(3) = 29",
            "told(5) = 3", "undo() = 0", "here() = 3/7", "told(2) = 2", "told(5) = 2", "live(0) = 4",
            "undo() ! 6");
        from();
        run("mark()", "tours{up;}", "undo() = 0", "live(0) ! 6");
        run("tours{up;}", "mark()", "study(0)", "live(0) ! 6", "undo() = 0", "live(0) = 1");
        // the TRAYS, the tape, the FRACTION, FAULTS and what lived() tells are not taken back
        run("tray(0, 0, 2)", "mark()", "write(0, 1, 5)", "tray(1, 1, 1)", "tours{left;}", "live(0)",
            "study{odds} ! 9 2@4", "feed{odds 3;}", "fraction(3) = 1/3", "undo() = 0", "top() = 1",
            "bottom() = 3", "read(0, 1) = 5", "read(1, 0) = 0", "lived(1) = 1", "fault(0) = 2",
            "fault(1) = 4", "study(7) = 0", "told(1) = 3");
    }

    private static void statusInOrder() {
        says("STATUS of a call is the first of these that holds: 1 a number that can't be (no VALUE, "
            + "a k or n below 0, too); no such TRAY. 2 the TRAY is MISSING. 3 a place that the TRAY "
            + "has not, or too few numbers. 4 one too many. 5 a number in a TRAY that can't be. 6 "
            + "there is none such. 7 it can't be. 8 TRAYS are of unlike sorts. 9 a FAULT. 0 else.",
            "With another STATUS than 0 a call gives NONE, or false, and changes nothing else (but "
            + "study(), tours() with 9 the tape, and what fault() tells).");
        from("tray(0, 0, 3)", "write(0, 0, 9)");
        // 1 ahead of 2, 3, 5
        each("read(4, 99) ! 1", "write(4, 99, 0) ! 1", "follow(1, 21) ! 1", "follow(0, 21) ! 1",
            "follow(0, -1) ! 1", "copyPins(4) ! 1");
        // 2 ahead of 3; 3 ahead of 5
        each("read(1, 99) ! 2", "write(1, -1, 0) ! 2", "follow(1, 20) ! 2", "copyPins(1) ! 2",
            "follow(0, 4) ! 3", "follow(0, 3) ! 5", "follow(0, 1) ! 5", "follow(0, 0) = 1/2");
        // 1 ahead of 6
        each("fraction(-1) ! 1", "place(1, 0) ! 1", "above(2, 1) ! 1", "ahead(-1, 1) ! 1",
            "termAt(0, 1, -1) ! 1", "termAt(2, 1, 9) ! 1", "lift(2, 1) ! 1", "weight(2, 1) ! 1",
            "pinAt(-1) ! 1", "risingAt(-1) ! 1", "share(2, 1) ! 1", "live(-1) ! 1", "lived(5) ! 1",
            "lived(-1) ! 1", "mean(0, 0) ! 1", "mean(9999, 2) ! 1", "turnAt(1, 2, -1) ! 1");
        // 1 ahead of 7
        each("simplest(2, 1, 2, 1) ! 1", "simplest(0, 0, 0, 0) ! 1", "depth(0, 0) ! 1",
            "turnAt(0, 1, -1) ! 1", "parent(0, 0) ! 1", "jump(0, 10000) ! 1", "game(0, 1, 11) ! 1",
            "game(0, 0, 0) ! 1", "moveOf(0, 1, 0) ! 1", "rule(2, 5) ! 1");
        // 1 ahead of 4, and a bottom of 1 is just a VALUE
        from("study{pin 1 by 13;pin 2 by 13;pin 3 by 13;pin 4 by 13;pin 5 by 13;pin 6 by 13;"
            + "pin 7 by 13;pin 8 by 13;pin 9 by 13;pin 10 by 13;pin 11 by 13;pin 12 by 13;}");
        each("pin(1, 2, 0) ! 1", "pin(1, 2, 100) ! 1", "pin(2, 1, 1) ! 1", "pin(0, 1, 1) ! 4",
            "pin(1, 1, 99) ! 4");
        // 1 ahead of 9
        from("feed{x}");
        each("study(21) ! 1", "tours(21) ! 1", "study(-1) ! 1", "study(1) ! 9 2@0",
            "tours(1) ! 9 2@0", "tours(20) ! 9 2@0");
        from("feed{x" + " ".repeat(319) + "}");
        each("tours(301) ! 1", "tours(300) ! 9 2@0", "study(301) ! 9 2@0");
    }

    private static void calls() {
        says("An object is used for at most 512 calls after it has been made; what later calls answer "
            + "is free.", "The constants: `NONE = -1`: None.");
        Check.due("NONE", FareyRank.NONE, -1);
        Subject x = new Subject();
        for (int i = 1; i < 512; i++) {
            ask(x, i % 2 == 1 ? "go(0)" : "up()");
        }
        Check.due("the 512th call", x.ask("told", "6"), 1);
    }
}
