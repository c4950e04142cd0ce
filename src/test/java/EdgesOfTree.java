/** Promises 26 to 33: the TREE, TERMS, DIGITS. */
final class EdgesOfTree extends Edges {
    static void all() {
        tree();
        depth();
        turnAt();
        parent();
        follow();
        terms();
        digits();
        digitAt();
    }

    private static void tree() {
        says("TREE: 1 by 2 is at its top, between 0 by 1 and 1 by 1. Each VALUE of it is between a "
            + "lesser one and a greater one; its LEFT child is the MEDIANT (top and top, bottom and "
            + "bottom) of the lesser one and itself, between these; its RIGHT child that of itself "
            + "and the greater one.");
        from("tray(0, 0, 20)");
        for (String way : new String[] {" 1/2", "0 1/3", "1 2/3", "00 1/4", "01 2/5", "10 3/5",
            "11 3/4", "000 1/5", "001 2/7", "010 3/8", "011 3/7", "100 4/7", "101 5/8",
            "110 5/7", "111 4/5"}) {
            String turns = way.split(" ")[0];
            String value = way.split(" ")[1];
            String[] lines = new String[2 * turns.length() + 3];
            for (int i = 0; i < turns.length(); i++) {
                lines[2 * i] = "write(0, " + i + ", " + turns.charAt(i) + ")";
                lines[2 * i + 1] = "go(" + turns.charAt(i) + ") = " + (i + 1);
            }
            lines[lines.length - 3] = "here() = " + value;
            lines[lines.length - 2] = "follow(0, " + turns.length() + ") = " + value;
            lines[lines.length - 1] = "depth(" + value.replace("/", ", ") + ") = " + turns.length();
            run(lines);
        }
        says("All VALUES but 0 and 1 are of the TREE, in lowest terms.");
        from(FULL);
        for (String call : new String[] {"depth(#) ! 7", "turnAt(#, 0) ! 7", "parent(#) ! 7",
            "jump(#) ! 7", "game(#, 0) ! 7", "moveOf(#, 1) ! 7"}) {
            for (String none : new String[] {"0, 1", "1, 1", "0, 2", "2, 2", "0, 9999",
                "9999, 9999"}) {
                run(call.replace("#", none));
            }
        }
        each("depth(1, 2) = 0", "depth(4999, 9998) = 0", "depth(1, 9999) = 9997",
            "depth(9998, 9999) = 9997", "jump(1, 9999) = 9997", "jump(9998, 9999) = 9997",
            "game(1, 9999, 0) = 9999", "game(9998, 9999, 0) = 9999", "game(4999, 9998, 0) = 2",
            "moveOf(1, 9999, 1) = 1", "moveOf(9998, 9999, 1) = 0", "parent(1, 9999) = 1/9998",
            "parent(9998, 9999) = 9997/9998");
    }

    private static void depth() {
        says("DEPTH: how many children one goes down to it from 1 by 2; its turns: 0 LEFT, 1 RIGHT.",
            ": DEPTH of a VALUE (1; 7: it is not of the TREE).");
        from(FULL);
        run("depth(1, 2) = 0", "depth(1, 3) = 1", "depth(2, 3) = 1", "depth(2, 6) = 1",
            "depth(2, 5) = 2", "depth(4181, 6765) = 17", "depth(5000, 9999) = 4999",
            "depth(4999, 9999) = 4999", "depth(0, 1) ! 7", "depth(1, 1) ! 7", "depth(2, 1) ! 1",
            "told(6) = 5");
    }

    private static void turnAt() {
        says(": The k-th turn to it from 1 by 2, from 0 on (1; 7: it is not of the TREE, whatever k "
            + "from 0 on is; 6: it is, and there is no such).");
        from(FULL);
        run("turnAt(1, 2, 0) ! 6", "turnAt(1, 2, 1) ! 6", "turnAt(1, 2, MAX) ! 6",
            "turnAt(1, 2, -1) ! 1", "turnAt(1, 2, MIN) ! 1", "turnAt(4999, 9998, 0) ! 6");
        run("turnAt(1, 3, 0) = 0", "turnAt(1, 3, 1) ! 6", "turnAt(2, 3, 0) = 1",
            "turnAt(2, 3, 1) ! 6", "turnAt(1, 3, -1) ! 1", "turnAt(1, 3, MAX) ! 6");
        // 5 by 12: LEFT 1 by 3, RIGHT 2 by 5, RIGHT 3 by 7, LEFT 5 by 12
        run("turnAt(5, 12, 0) = 0", "turnAt(5, 12, 1) = 1", "turnAt(5, 12, 2) = 1",
            "turnAt(5, 12, 3) = 0", "turnAt(5, 12, 4) ! 6", "turnAt(10, 24, 3) = 0");
        run("turnAt(1, 9999, 0) = 0", "turnAt(1, 9999, 9996) = 0", "turnAt(1, 9999, 9997) ! 6",
            "turnAt(9998, 9999, 0) = 1", "turnAt(9998, 9999, 9996) = 1",
            "turnAt(9998, 9999, 9997) ! 6", "turnAt(5000, 9999, 0) = 1",
            "turnAt(5000, 9999, 1) = 0", "turnAt(5000, 9999, 4998) = 0",
            "turnAt(5000, 9999, 4999) ! 6", "turnAt(4999, 9999, 0) = 0",
            "turnAt(4999, 9999, 1) = 1", "turnAt(4999, 9999, 4998) = 1");
        for (String none : new String[] {"0, 1", "1, 1", "0, 9999", "9999, 9999"}) {
            run("turnAt(" + none + ", 0) ! 7", "turnAt(" + none + ", 1) ! 7",
                "turnAt(" + none + ", MAX) ! 7", "turnAt(" + none + ", -1) ! 1",
                "turnAt(" + none + ", MIN) ! 1");
        }
        run("turnAt(3, 2, 0) ! 1", "turnAt(3, 2, -1) ! 1", "turnAt(3, 2, MAX) ! 1");
    }

    private static void parent() {
        says(": The FRACTION is the VALUE whose child it is (1; 7: it is not of the TREE; 6: it is 1 "
            + "by 2).");
        from(FULL);
        run("parent(1, 2) ! 6", "parent(4999, 9998) ! 6", "parent(1, 3) = 1/2", "parent(2, 3) = 1/2",
            "parent(2, 6) = 1/2", "parent(2, 5) = 1/3", "parent(3, 5) = 2/3", "parent(1, 4) = 1/3",
            "parent(3, 4) = 2/3", "parent(5, 12) = 3/7", "parent(0, 1) ! 7", "parent(1, 1) ! 7",
            "parent(1, 9999) = 1/9998", "parent(9998, 9999) = 9997/9998",
            "parent(5000, 9999) = 4999/9997", "parent(4181, 6765) = 2584/4181", "parent(2, 1) ! 1");
    }

    private static void follow() {
        says(": The FRACTION is where one comes to from 1 by 2 by the first n (0 to 20) numbers of a "
            + "TRAY as turns (1; 2; 3; 5).", "5 a number in a TRAY that can't be.");
        from(with(FULL, "tray(3, 2, 20)"));
        range("follow(3, #)", 0, 20);
        // 1 ahead of 2, 3 and 5; 2; 3 ahead of 5
        from(FULL);
        each("follow(3, 21) ! 1", "follow(3, -1) ! 1", "follow(0, 21) ! 1", "follow(0, -1) ! 1",
            "follow(4, 21) ! 1", "follow(3, 0) ! 2", "follow(3, 20) ! 2", "follow(0, 4) ! 3",
            "follow(0, 20) ! 3", "follow(0, 3) ! 5", "follow(0, 2) = 3/5", "follow(0, 1) = 2/3",
            "follow(0, 0) = 1/2", "follow(1, 6) ! 5", "follow(1, 5) = 1/7", "follow(1, 7) ! 3",
            "follow(2, 2) ! 5", "follow(2, 3) ! 3", "follow(2, 1) = 1/3");
        for (int sort = 0; sort < 4; sort++) {
            from("tray(1, " + sort + ", 20)");
            run("follow(1, 20) = 1/22", "write(1, 0, 1)", "follow(1, 20) = 21/41",
                "write(1, 19, 2)", "follow(1, 20) ! 5", "follow(1, 19) = 20/39",
                "write(1, 19, -1)", "follow(1, 20) ! 5", "write(1, 0, 2)", "follow(1, 1) ! 5",
                "follow(1, 0) = 1/2", "write(1, 0, -1)", "follow(1, 1) ! 5", "follow(1, 20) ! 5");
            from("tray(1, " + sort + ", 0)");
            run("follow(1, 0) = 1/2", "follow(1, 1) ! 3");
            from("tray(1, " + sort + ", 19)");
            run("follow(1, 19) = 1/21", "follow(1, 20) ! 3", "write(1, 5, 9)", "follow(1, 20) ! 3");
        }
        from("tray(1, 3, 3)");
        run("write(1, 0, 4294967296)", "follow(1, 1) ! 5", "write(1, 0, 4294967297)",
            "follow(1, 1) ! 5", "write(1, 0, MAX)", "follow(1, 1) ! 5", "write(1, 0, MIN)",
            "follow(1, 1) ! 5");
        from("tray(1, 0, 3)");
        run("write(1, 0, 256)", "follow(1, 1) = 1/3", "write(1, 0, 257)", "follow(1, 1) = 2/3");
        // to and fro 20 times: bottoms as great as they can be, far above 9,999
        String[] lines = new String[22];
        lines[0] = "tray(2, 0, 60)";
        for (int i = 0; i < 20; i++) {
            lines[i + 1] = "write(2, " + i + ", " + i % 2 + ")";
        }
        lines[21] = "follow(2, 20) = 10946/28657";
        from();
        run(lines);
    }

    private static void terms() {
        says("TERMS of a VALUE in lowest terms: a0 (0; 1 of 1 by 1) and what is left; as long as "
            + "something is left, the bottom by it is told likewise: a1, a2 ..", ": How many TERMS (1).");
        from(FULL);
        run("terms(0, 1) = 1", "terms(0, 9999) = 1", "terms(1, 1) = 1", "terms(9999, 9999) = 1",
            "terms(1, 2) = 2", "terms(4999, 9998) = 2", "terms(1, 9999) = 2",
            "terms(9998, 9999) = 3", "terms(68, 157) = 5", "terms(136, 314) = 5",
            "terms(4181, 6765) = 19");
        says(": The k-th of TERMS, from 0 on (1; 6: no such).");
        run("termAt(0, 1, 0) = 0", "termAt(0, 1, 1) ! 6", "termAt(0, 1, -1) ! 1",
            "termAt(0, 9999, 0) = 0", "termAt(0, 9999, 1) ! 6", "termAt(1, 1, 0) = 1",
            "termAt(1, 1, 1) ! 6", "termAt(9999, 9999, 0) = 1", "termAt(9999, 9999, 1) ! 6",
            "termAt(1, 1, MAX) ! 6", "termAt(1, 1, MIN) ! 1");
        run("termAt(1, 2, 0) = 0", "termAt(1, 2, 1) = 2", "termAt(1, 2, 2) ! 6",
            "termAt(1, 9999, 1) = 9999", "termAt(1, 9999, 2) ! 6", "termAt(9998, 9999, 1) = 1",
            "termAt(9998, 9999, 2) = 9998", "termAt(9998, 9999, 3) ! 6");
        run("termAt(68, 157, 0) = 0", "termAt(68, 157, 1) = 2", "termAt(68, 157, 2) = 3",
            "termAt(68, 157, 3) = 4", "termAt(68, 157, 4) = 5", "termAt(136, 314, 4) = 5",
            "termAt(68, 157, 5) ! 6", "termAt(68, 157, -1) ! 1", "termAt(4181, 6765, 17) = 1",
            "termAt(4181, 6765, 18) = 2", "termAt(4181, 6765, 19) ! 6", "termAt(2, 1, -1) ! 1",
            "termAt(2, 1, 0) ! 1", "termAt(2, 1, MAX) ! 1");
    }

    private static void digits() {
        says("DIGITS behind the point of a VALUE (of 1 all are 0) : some ahead, then a PERIOD that "
            + "comes again and again (none, if there are only noughts behind); both are as short as "
            + "can be.", ": DIGITS, what 0: how many ahead of the PERIOD, 1: how many the PERIOD has "
            + "(0: none) (1).");
        from(FULL);
        range("digits(1, 7, #)", 0, 1);
        String[][] due = {{"0, 1", "0", "0"}, {"0, 9999", "0", "0"}, {"1, 1", "0", "0"},
            {"9999, 9999", "0", "0"}, {"1, 2", "1", "0"}, {"1, 5", "1", "0"}, {"1, 10", "1", "0"},
            {"1, 4", "2", "0"}, {"2, 8", "2", "0"}, {"1, 8192", "13", "0"}, {"1, 3125", "5", "0"},
            {"1, 3", "0", "1"}, {"1, 9", "0", "1"}, {"3, 9", "0", "1"}, {"1, 11", "0", "2"},
            {"1, 7", "0", "6"}, {"2, 14", "0", "6"}, {"1, 14", "1", "6"}, {"1, 6", "1", "1"},
            {"3, 6", "1", "0"}, {"1, 12", "2", "1"}, {"1, 9999", "0", "4"}, {"9998, 9999", "0", "4"},
            {"1, 9967", "0", "9966"}, {"1, 9600", "7", "1"}, {"1, 9998", "1", "357"},
            {"9000, 9000", "0", "0"}, {"4999, 9998", "1", "0"}};
        for (String[] d : due) {
            run("digits(" + d[0] + ", 0) = " + d[1], "digits(" + d[0] + ", 1) = " + d[2],
                "digits(" + d[0] + ", 2) ! 1", "digits(" + d[0] + ", -1) ! 1");
        }
        run("digits(2, 1, 0) ! 1", "digits(2, 1, 2) ! 1", "digits(1, 10000, 1) ! 1");
    }

    private static void digitAt() {
        says(": The k-th DIGIT behind the point, from 0 on (k 0 to 9,999) (1).");
        from(FULL);
        range("digitAt(1, 7, #)", 0, 9999);
        run("digitAt(1, 7, 0) = 1", "digitAt(1, 7, 5) = 7", "digitAt(1, 7, 6) = 1",
            "digitAt(1, 7, 9998) = 2", "digitAt(1, 7, 9999) = 8");
        run("digitAt(0, 1, 0) = 0", "digitAt(0, 9999, 9999) = 0", "digitAt(1, 1, 0) = 0",
            "digitAt(9999, 9999, 9999) = 0", "digitAt(1, 2, 0) = 5", "digitAt(1, 2, 1) = 0",
            "digitAt(1, 2, 9999) = 0", "digitAt(9998, 9999, 0) = 9", "digitAt(9998, 9999, 3) = 8",
            "digitAt(9998, 9999, 9999) = 8", "digitAt(1, 9999, 9999) = 1",
            "digitAt(1, 9999, 9998) = 0", "digitAt(1, 3, 9999) = 3", "digitAt(2, 3, 0) = 6",
            "digitAt(1, 8192, 12) = 5", "digitAt(1, 8192, 13) = 0", "digitAt(1, 6, 0) = 1",
            "digitAt(1, 6, 1) = 6", "digitAt(2, 1, 0) ! 1", "digitAt(2, 1, -1) ! 1");
    }
}
