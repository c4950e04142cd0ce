/** Promises 52 to 55: games, odds, a part of ROW. */
final class EdgesOfGames extends Edges {
    static void all() {
        nothingChanges();
        game();
        wrong();
        part();
    }

    /** Each call that asks only, on an object with something on every side. */
    private static void nothingChanges() {
        says("All ahead is as all is now; nothing changes by it.");
        from(FULL);
        each("told(4) = 19", "size(3) = 5", "fraction(2) = 1/6", "place(1, 6) = 2", "rank(1, 2) = 9",
            "below(1, -1) = 9", "above(1, 6) = 1/5", "ahead(1, 6) = 1/7", "nearest(1, 6) = 1/6",
            "between(1, 7, 1, 5) = 1", "coprimes(2, 2) = 3", "simplest(1, 3, 1, 2) = 2/5",
            "wide(1, 3, 3, 4) = 5", "depth(3, 7) = 3", "turnAt(3, 7, 2) = 1", "parent(3, 7) = 2/5",
            "follow(0, 2) = 3/5", "terms(3, 7) = 3", "termAt(3, 7, 2) = 3", "digits(1, 6, 0) = 1",
            "digitAt(1, 6, 1) = 6", "here() = 6/11", "wasAt(3, 7) = 1", "weight(1, 3) = 8",
            "pinAt(1) = 6/7", "risingAt(1) = 5/9", "heaviest() = 3/4", "middle() = 3/4",
            "gap() = 1/3", "share(1, 2) = 1/4", "pinsOfRow() = 3", "game(2, 3, 2) = 7",
            "moveOf(2, 3, 1) = 0", "wrong(1, 1) = 9/16", "part(6) = 13/19", "lived(2) = 1",
            "read(1, 5) = 300", "mean(5, 1) = 7/1", "top() = 1", "bottom() = 5", "status() = 0",
            "fault(0) = 2");
    }

    private static void game() {
        says("GAME of n turns (0 to 10) from a VALUE of the TREE: by turns, first one who wants a "
            + "great bottom, then one who wants a small one, one goes to its LEFT or its RIGHT child: "
            + "the bottom in the end, by best play.", ": GAME from a VALUE (1; 7: it is not of the "
            + "TREE).");
        from(FULL);
        range("game(1, 2, #)", 0, 10);
        range("game(9998, 9999, #)", 0, 10);
        run("game(1, 2, 0) = 2", "game(1, 2, 1) = 3", "game(1, 2, 2) = 4", "game(1, 2, 3) = 7",
            "game(2, 3, 0) = 3", "game(2, 3, 1) = 5", "game(2, 3, 2) = 7", "game(4, 6, 2) = 7",
            "game(1, 9999, 0) = 9999", "game(1, 9999, 1) = 19997", "game(9998, 9999, 1) = 19997",
            "told(6) = 5");
        // a great one, a small one: from 1 by 9999 RIGHT (19,997), then LEFT (29,996) or RIGHT (29,995)
        run("game(1, 9999, 2) = 29995", "moveOf(1, 9999, 2) = 1");
        for (String none : new String[] {"0, 1", "1, 1", "0, 9999", "9999, 9999"}) {
            run("game(" + none + ", 0) ! 7", "game(" + none + ", 10) ! 7", "game(" + none + ", 11) ! 1",
                "game(" + none + ", -1) ! 1", "moveOf(" + none + ", 1) ! 7",
                "moveOf(" + none + ", 10) ! 7", "moveOf(" + none + ", 0) ! 1",
                "moveOf(" + none + ", 11) ! 1", "moveOf(" + none + ", -1) ! 1");
        }
        run("game(2, 1, 1) ! 1", "game(2, 1, 11) ! 1", "moveOf(2, 1, 1) ! 1", "moveOf(2, 1, 0) ! 1");
        says("MOVE: the first one's turn, 0 if both are as good.", ": MOVE (1: n 0, too; 7).");
        range("moveOf(1, 2, #)", 1, 10);
        range("moveOf(9998, 9999, #)", 1, 10);
        run("moveOf(1, 2, 0) ! 1", "moveOf(1, 2, 1) = 0", "moveOf(1, 2, 2) = 0", "moveOf(1, 2, 10) = 0",
            "moveOf(1, 3, 1) = 1", "moveOf(2, 3, 1) = 0", "moveOf(1, 3, 2) = 1", "moveOf(2, 3, 2) = 0",
            "moveOf(1, 9999, 1) = 1", "moveOf(9998, 9999, 1) = 0");
    }

    private static void wrong() {
        says("Each of n turns (0 to 12) is wrong by ODDS sixteenths: WRONG: the odds that k or more "
            + "are.", ": The FRACTION is WRONG (n, k 0 to 12) (1).");
        from(FULL);
        range("wrong(#, 0)", 0, 12);
        range("wrong(#, 12)", 0, 12);
        range("wrong(0, #)", 0, 12);
        range("wrong(12, #)", 0, 12);
        run("wrong(0, 0) = 1/1", "wrong(0, 1) = 0/1", "wrong(0, 12) = 0/1", "wrong(1, 0) = 1/1",
            "wrong(1, 1) = 9/16", "wrong(1, 2) = 0/1", "wrong(2, 1) = 207/256", "wrong(2, 2) = 81/256",
            "wrong(11, 12) = 0/1", "wrong(12, 0) = 1/1", "wrong(13, 13) ! 1", "wrong(-1, -1) ! 1");
        from("rule(1, 0)");
        run("wrong(0, 0) = 1/1", "wrong(0, 1) = 0/1", "wrong(12, 0) = 1/1", "wrong(12, 1) = 0/1",
            "wrong(12, 12) = 0/1");
        from("rule(1, 16)");
        run("wrong(0, 0) = 1/1", "wrong(0, 1) = 0/1", "wrong(12, 12) = 1/1", "wrong(12, 0) = 1/1",
            "wrong(11, 12) = 0/1", "wrong(11, 11) = 1/1");
        from("rule(1, 8)");
        run("wrong(12, 1) = 4095/4096", "wrong(12, 11) = 13/4096", "wrong(12, 12) = 1/4096",
            "wrong(3, 2) = 1/2");
        from("rule(1, 15)");
        run("wrong(12, 1) = 281474976710655/281474976710656");
    }

    private static void part() {
        says(": The FRACTION is the part of ROW whose bottom is b (1 to 200) or less (1).");
        from(FULL);
        range("part(#)", 1, 200);
        run("part(1) = 2/19", "part(2) = 3/19", "part(6) = 13/19", "part(7) = 1/1", "part(8) = 1/1",
            "part(200) = 1/1", "told(0) = 7");
        from("rule(0, 200)");
        run("part(1) = 2/12233", "part(199) = 12153/12233", "part(200) = 1/1");
        from("rule(0, 1)");
        run("part(1) = 1/1", "part(2) = 1/1", "part(200) = 1/1");
    }
}
