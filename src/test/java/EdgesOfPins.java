/** Promises 41 to 51: PINS. */
final class EdgesOfPins extends Edges {
    private static final String[] TWELVE = {"study{pin 1 by 13;pin 2 by 13;pin 3 by 13;pin 4 by 13;"
        + "pin 5 by 13;pin 6 by 13;pin 7 by 13;pin 8 by 13;pin 9 by 13;pin 10 by 13;pin 11 by 13;"
        + "pin 12 by 13;}"};
    private static final String[] HEAVY = {"pin(1, 2, 99)", "pin(1, 2, 99)", "pin(1, 2, 99)",
        "pin(1, 2, 99)", "pin(1, 2, 99)", "pin(1, 2, 99)", "pin(1, 2, 99)", "pin(1, 2, 99)",
        "pin(1, 2, 99)", "pin(1, 2, 99)"};

    static void all() {
        pin();
        lift();
        inOrder();
        heaviest();
        middle();
        gap();
        share();
        pinsOfRow();
        copyPins();
    }

    private static void pin() {
        says("PIN of a VALUE: it is pinned behind all that are, with a WEIGHT; if it is pinned "
            + "already, that is added to its WEIGHT (999 at most).", ": PIN of a VALUE by a WEIGHT "
            + "(1 to 99): its WEIGHT then (1; 4: a 13th; 7: above 999).", "4 one too many.");
        from(FULL);
        range("pin(1, 9, #)", 1, 99);
        range("pin(1, 3, #)", 1, 99);
        run("pin(1, 9, 1) = 1", "pinAt(4) = 1/9", "pin(1, 9, 99) = 100", "told(2) = 5",
            "told(3) = 132", "pin(2, 6, 1) = 9", "pinAt(0) = 1/3", "told(2) = 5", "pin(0, 5, 2) = 2",
            "pin(0, 9999, 3) = 5", "pin(5, 5, 4) = 4", "pin(9999, 9999, 5) = 9", "told(2) = 7");
        from(HEAVY);
        run("weight(1, 2) = 990", "pin(1, 2, 10) ! 7", "pin(1, 2, 99) ! 7", "pin(1, 2, 8) = 998",
            "pin(1, 2, 2) ! 7", "pin(1, 2, 1) = 999", "pin(1, 2, 1) ! 7", "pin(2, 4, 1) ! 7",
            "pin(1, 2, 0) ! 1", "pin(1, 2, 100) ! 1", "pin(1, 2, MAX) ! 1", "weight(1, 2) = 999",
            "pin(1, 3, 99) = 99");
        run("pin(1, 2, 9) = 999", "lift(1, 2) = 999", "pin(1, 2, 1) = 1");
        from(TWELVE);
        run("told(2) = 12", "pin(1, 2, 1) ! 4", "pin(0, 1, 99) ! 4", "pin(1, 2, 0) ! 1",
            "pin(1, 2, 100) ! 1", "pin(2, 1, 1) ! 1", "pin(2, 26, 99) = 100", "pin(12, 13, 1) = 2",
            "told(2) = 12", "lift(1, 13) = 100", "told(2) = 11", "pin(1, 2, 1) = 1",
            "pin(1, 13, 1) ! 4", "pinAt(0) = 2/13", "pinAt(10) = 12/13", "pinAt(11) = 1/2");
        // 7 where 12 are pinned: it is no 13th
        from(with(HEAVY, "pin(1, 3, 1)", "pin(2, 3, 1)", "pin(1, 4, 1)", "pin(3, 4, 1)",
            "pin(1, 5, 1)", "pin(2, 5, 1)", "pin(3, 5, 1)", "pin(4, 5, 1)", "pin(0, 1, 1)",
            "pin(1, 1, 1)"));
        run("told(2) = 11", "pin(1, 6, 1) = 1", "pin(1, 2, 10) ! 7", "pin(5, 6, 10) ! 4",
            "pin(1, 2, 9) = 999", "told(3) = 1010");
    }

    private static void lift() {
        says(": A VALUE is not pinned any more: the WEIGHT that it had (1; 6: it is not).");
        from(FULL);
        run("lift(1, 2) ! 6", "lift(0, 1) ! 6", "lift(1, 1) ! 6", "lift(2, 6) = 8", "lift(1, 3) ! 6",
            "told(2) = 3", "told(3) = 24", "pinAt(0) = 6/7", "pinAt(1) = 3/4", "pinAt(2) = 5/9",
            "lift(5, 9) = 3", "lift(6, 7) = 1", "lift(3, 4) = 20", "lift(3, 4) ! 6", "told(2) = 0",
            "told(3) = 0", "pinAt(0) ! 6");
        from();
        run("lift(1, 2) ! 6", "lift(3, 2) ! 1");
        from(TWELVE);
        run("lift(12, 13) = 1", "pinAt(10) = 11/13", "pinAt(11) ! 6", "lift(1, 13) = 1",
            "pinAt(0) = 2/13", "pinAt(9) = 11/13", "pinAt(10) ! 6");
        says(": WEIGHT of a VALUE (1; 6: it is not pinned).");
        from(FULL);
        run("weight(1, 3) = 8", "weight(3333, 9999) = 8", "weight(6, 7) = 1", "weight(1, 2) ! 6",
            "weight(0, 1) ! 6", "weight(1, 1) ! 6", "weight(2, 1) ! 1");
        from();
        run("weight(1, 2) ! 6", "pin(1, 2, 5)", "weight(1, 2) = 5", "lift(1, 2)", "weight(1, 2) ! 6");
    }

    private static void inOrder() {
        says(": The FRACTION is the k-th VALUE pinned, from 0 on, as they were pinned (1; 6: no "
            + "such).", ": The FRACTION is the k-th of them, from 0 on, rising (1; 6: no such).");
        from();
        for (String call : new String[] {"pinAt", "risingAt"}) {
            run(call + "(0) ! 6", call + "(-1) ! 1", call + "(MIN) ! 1", call + "(MAX) ! 6",
                "pin(1, 3, 4)", call + "(0) = 1/3", call + "(1) ! 6", call + "(-1) ! 1");
        }
        from(FULL);
        run("pinAt(0) = 1/3", "pinAt(1) = 6/7", "pinAt(2) = 3/4", "pinAt(3) = 5/9", "pinAt(4) ! 6",
            "pinAt(-1) ! 1", "risingAt(0) = 1/3", "risingAt(1) = 5/9", "risingAt(2) = 3/4",
            "risingAt(3) = 6/7", "risingAt(4) ! 6", "risingAt(-1) ! 1", "pin(1, 1, 1)",
            "pin(0, 1, 1)", "pinAt(5) = 0/1", "risingAt(0) = 0/1", "risingAt(5) = 1/1",
            "risingAt(6) ! 6");
        from(TWELVE);
        run("pinAt(11) = 12/13", "pinAt(12) ! 6", "risingAt(11) = 12/13", "risingAt(12) ! 6",
            "risingAt(MAX) ! 6", "risingAt(MIN) ! 1", "pinAt(MAX) ! 6", "pinAt(MIN) ! 1",
            "pinAt(13) ! 6", "risingAt(13) ! 6");
        // great bottoms, as near to one another as VALUES can be
        from("pin(4998, 9997, 1)", "pin(4999, 9999, 1)", "pin(9998, 9999, 1)", "pin(9997, 9998, 1)");
        run("risingAt(0) = 4998/9997", "risingAt(1) = 4999/9999", "risingAt(2) = 9997/9998",
            "risingAt(3) = 9998/9999");
    }

    private static void heaviest() {
        says(": The FRACTION is that with the greatest WEIGHT, of several the least (6: none is "
            + "pinned).");
        from();
        run("heaviest() ! 6", "pin(3, 4, 5)", "heaviest() = 3/4", "pin(1, 4, 4)", "heaviest() = 3/4",
            "pin(1, 4, 1)", "heaviest() = 1/4", "pin(1, 2, 5)", "heaviest() = 1/4", "pin(3, 4, 1)",
            "heaviest() = 3/4", "lift(3, 4)", "heaviest() = 1/4", "lift(1, 4)", "heaviest() = 1/2",
            "lift(1, 2)", "heaviest() ! 6");
        from(TWELVE);
        run("heaviest() = 1/13", "pin(12, 13, 1)", "heaviest() = 12/13");
        from(FULL);
        run("heaviest() = 3/4", "study(0)", "heaviest() ! 6");
    }

    private static void middle() {
        says("MIDDLE: the least pinned VALUE so that the WEIGHT of all pinned ones that are it or "
            + "less is half of all WEIGHT, or more.", ": The FRACTION is MIDDLE (6: none is pinned).");
        from();
        run("middle() ! 6", "pin(3, 4, 5)", "middle() = 3/4", "lift(3, 4)", "middle() ! 6");
        from("pin(3, 4, 5)", "pin(1, 4, 4)");
        run("middle() = 3/4", "pin(1, 4, 1)", "middle() = 1/4", "pin(1, 4, 1)", "middle() = 1/4");
        from("pin(3, 4, 1)", "pin(1, 4, 1)", "pin(1, 2, 1)");
        run("middle() = 1/2", "pin(1, 4, 1)", "middle() = 1/4", "pin(3, 4, 1)", "middle() = 1/2",
            "pin(3, 4, 1)", "middle() = 1/2", "pin(3, 4, 1)", "middle() = 3/4");
        from("pin(0, 1, 50)", "pin(1, 1, 50)");
        run("middle() = 0/1", "pin(1, 1, 1)", "middle() = 1/1");
        from(TWELVE);
        run("middle() = 6/13", "pin(12, 13, 1)", "middle() = 7/13", "lift(12, 13)",
            "middle() = 6/13");
        from(with(HEAVY, "pin(1, 2, 9)"));
        run("pin(3, 4, 99)", "middle() = 1/2", "pin(1, 4, 99)", "middle() = 1/2");
    }

    private static void gap() {
        says("GAP: the greatest difference of neighbours among 0, all pinned VALUES, and 1.",
            ": The FRACTION is GAP.");
        from();
        run("gap() = 1/1", "pin(0, 1, 1)", "gap() = 1/1", "pin(1, 1, 1)", "gap() = 1/1",
            "pin(1, 2, 1)", "gap() = 1/2", "lift(0, 1)", "lift(1, 1)", "gap() = 1/2");
        run("pin(1, 3, 1)", "gap() = 2/3", "pin(2, 3, 1)", "gap() = 1/3", "pin(1, 2, 1)",
            "gap() = 1/3");
        run("pin(3, 4, 1)", "gap() = 3/4", "pin(1, 4, 1)", "gap() = 1/2", "pin(1, 2, 1)",
            "gap() = 1/4");
        run("pin(1, 9999, 1)", "gap() = 9998/9999", "pin(9998, 9999, 1)", "gap() = 9997/9999");
        run("pin(9998, 9999, 1)", "gap() = 9998/9999", "pin(9997, 9998, 1)", "gap() = 9997/9998");
        run("pin(1, 9999, 1)", "pin(9997, 9998, 1)", "gap() = 99950005/99970002");
        from(TWELVE);
        run("gap() = 1/13", "lift(7, 13)", "gap() = 2/13", "pin(1, 2, 1)", "gap() = 3/26",
            "lift(12, 13)", "gap() = 2/13");
    }

    private static void share() {
        says(": The FRACTION is the part of all WEIGHT of those that are a VALUE or less (1; 6: none "
            + "is pinned).");
        from();
        run("share(0, 1) ! 6", "share(1, 1) ! 6", "share(1, 2) ! 6", "share(2, 1) ! 1",
            "share(1, 0) ! 1");
        from("pin(1, 3, 2)", "pin(2, 3, 4)");
        run("share(0, 1) = 0/1", "share(3332, 9999) = 0/1", "share(1, 3) = 1/3",
            "share(3333, 9999) = 1/3", "share(6665, 9999) = 1/3", "share(2, 3) = 1/1",
            "share(1, 1) = 1/1", "pin(0, 1, 6)", "share(0, 9999) = 1/2", "pin(1, 1, 12)",
            "share(9998, 9999) = 1/2", "share(1, 1) = 1/1");
        from(with(HEAVY, "pin(1, 2, 9)", "pin(0, 1, 1)"));
        run("share(0, 1) = 1/1000", "share(1, 2) = 1/1");
    }

    private static void pinsOfRow() {
        says(": How many of those pinned are of ROW.");
        from();
        run("pinsOfRow() = 0", "pin(1, 5, 1)", "pinsOfRow() = 1", "pin(1, 6, 1)", "pinsOfRow() = 1",
            "pin(2000, 9998, 1)", "pinsOfRow() = 1", "pin(0, 9999, 1)", "pin(9999, 9999, 1)",
            "pinsOfRow() = 3", "rule(0, 6)", "pinsOfRow() = 4", "rule(0, 4)", "pinsOfRow() = 2",
            "rule(0, 1)", "pinsOfRow() = 2", "rule(0, 200)", "pinsOfRow() = 4");
        from(TWELVE);
        run("pinsOfRow() = 0", "rule(0, 12)", "pinsOfRow() = 0", "rule(0, 13)", "pinsOfRow() = 12");
        from("rule(0, 200)");
        run("pin(1, 200, 1)", "pinsOfRow() = 1", "pin(1, 201, 1)", "pinsOfRow() = 1", "pin(2, 398, 1)",
            "pinsOfRow() = 2");
    }

    private static void copyPins() {
        says(": All tops of those pinned, from place 0 on, then all bottoms, in lowest terms, as they "
            + "were pinned, come to a TRAY: how many are pinned (1; 2; 3: fewer places than two for "
            + "each).");
        from(FULL);
        run("copyPins(-1) ! 1", "copyPins(4) ! 1", "copyPins(3) ! 2", "copyPins(0) ! 3",
            "copyPins(1) ! 3", "copyPins(2) ! 3");
        run("tray(0, 1, 7)", "write(0, 0, 5)", "copyPins(0) ! 3", "read(0, 0) = 5");
        copied("tray(0, 1, 8)", 4, 1, 6, 3, 5, 3, 7, 4, 9);
        copied("tray(0, 0, 9)", 4, 1, 6, 3, 5, 3, 7, 4, 9, 0);
        from();
        run("copyPins(0) ! 2", "tray(0, 0, 0)", "copyPins(0) = 0", "pin(2, 4, 1)", "copyPins(0) ! 3",
            "tray(0, 3, 1)", "copyPins(0) ! 3", "tray(0, 3, 2)", "copyPins(0) = 1", "read(0, 0) = 1",
            "read(0, 1) = 2", "lift(1, 2)", "copyPins(0) = 0", "read(0, 0) = 1", "read(0, 1) = 2");
        run("tray(0, 2, 60)", "write(0, 0, 8)", "write(0, 59, 9)", "copyPins(0) = 0",
            "read(0, 0) = 8", "read(0, 59) = 9", "pin(0, 9, 1)", "copyPins(0) = 1", "read(0, 0) = 0",
            "read(0, 1) = 1", "read(0, 2) = 0", "read(0, 59) = 9");
        from("pin(9998, 9999, 1)", "pin(200, 401, 1)");
        copied("tray(1, 3, 4)", 2, 9998, 200, 9999, 401);
        copied("tray(1, 1, 4)", 2, 9998, 200, 9999, 401);
        copied("tray(1, 0, 4)", 2, 14, -56, 15, -111);
        from(TWELVE);
        run("tray(1, 0, 23)", "copyPins(1) ! 3");
        copied("tray(1, 0, 24)", 12, 1, 2, 3, 4, 5, 6, 7, 8, 9, 10, 11, 12, 13, 13, 13, 13, 13, 13,
            13, 13, 13, 13, 13, 13);
        copied("tray(1, 2, 25)", 12, 1, 2, 3, 4, 5, 6, 7, 8, 9, 10, 11, 12, 13, 13, 13, 13, 13, 13,
            13, 13, 13, 13, 13, 13, 0);
    }

    private static void copied(String tray, int many, int... row) {
        String to = tray.substring(5, 6);
        String[] lines = new String[row.length + 2];
        lines[0] = tray;
        lines[1] = "copyPins(" + to + ") = " + many;
        for (int i = 0; i < row.length; i++) {
            lines[i + 2] = "read(" + to + ", " + i + ") = " + row[i];
        }
        run(lines);
    }
}
