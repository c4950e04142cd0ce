import java.math.BigInteger;

/** Promises 34 to 40: the WALKER, VISITED, what is ruled. */
final class EdgesOfWalker extends Edges {
    static void all() {
        go();
        up();
        flip();
        jump();
        visited();
        rule();
    }

    /** The VALUE between a lesser one and a greater one with such bottoms. */
    private static String between(int lowBottom, int highBottom) {
        BigInteger bottom = BigInteger.valueOf(lowBottom + highBottom);
        return BigInteger.valueOf(lowBottom).modInverse(bottom) + ", " + bottom;
    }

    private static void go() {
        says("WALKER: goes LEFT, RIGHT (its bottom 9,999 at most), UP, jumps, FLIPS: to 1 less where "
            + "it is.", ": It goes LEFT (turn 0) or RIGHT (1): its DEPTH then (1; 7: the bottom "
            + "would be above 9,999).", ": The FRACTION is where it is.");
        from(FULL);
        range("go(#)", 0, 1);
        run("here() = 6/11", "go(0) = 6", "here() = 7/13", "go(1) = 7", "here() = 13/24",
            "go(2) ! 1", "go(-1) ! 1", "here() = 13/24");
        from();
        run("here() = 1/2", "go(0) = 1", "here() = 1/3");
        run("go(1) = 1", "here() = 2/3");
        from("jump(1, 9998)");
        run("go(1) ! 7", "go(0) = 9997", "here() = 1/9999", "go(0) ! 7", "go(1) ! 7", "go(2) ! 1",
            "go(-1) ! 1", "go(MAX) ! 1", "here() = 1/9999", "told(6) = 9997");
        from("jump(9997, 9998)");
        run("go(0) ! 7", "go(1) = 9997", "here() = 9998/9999", "go(1) ! 7", "go(0) ! 7");
        from("jump(" + between(3332, 3335) + ")");
        run("go(1) ! 7", "go(0)", "here()", "bottom() = 9999");
        from("jump(" + between(3335, 3332) + ")");
        run("go(0) ! 7", "go(1)", "here()", "bottom() = 9999");
        from("jump(" + between(3337, 3326) + ")");
        run("go(0) ! 7", "go(1)", "here()", "bottom() = 9989");
        from("jump(" + between(3326, 3337) + ")");
        run("go(1) ! 7", "go(0)", "here()", "bottom() = 9989");
        from("jump(" + between(4997, 5002) + ")");
        run("go(0) ! 7", "go(1) ! 7", "up()", "here()", "bottom() = 5002");
    }

    private static void up() {
        says(": It goes UP: its DEPTH then (6: it is at 1 by 2).");
        from();
        run("up() ! 6", "go(0)", "up() = 0", "here() = 1/2", "up() ! 6", "told(5) = 2");
        run("jump(2, 3)", "up() = 0", "up() ! 6", "up() ! 6");
        run("jump(4999, 9998)", "up() ! 6");
        from(FULL);
        run("up() = 4", "here() = 5/9", "up() = 3", "here() = 4/7", "up() = 2", "here() = 3/5",
            "up() = 1", "here() = 2/3", "up() = 0", "here() = 1/2", "up() ! 6");
        from("jump(1, 9999)");
        run("up() = 9996", "here() = 1/9998", "wasAt(1, 9998) = 1");
    }

    private static void flip() {
        says(": It FLIPS: its DEPTH then.");
        from();
        run("flip() = 0", "here() = 1/2", "told(5) = 1", "up() ! 6");
        from("jump(1, 9999)");
        run("flip() = 9997", "here() = 9998/9999", "told(5) = 3", "flip() = 9997",
            "here() = 1/9999", "told(5) = 3");
        run("flip()", "up() = 9996", "here() = 9997/9998", "go(1) = 9997", "go(1) ! 7", "go(0) ! 7");
        from(FULL);
        run("flip() = 5", "here() = 5/11", "wasAt(5, 11) = 1", "wasAt(6, 11) = 1");
    }

    private static void jump() {
        says(": It jumps to a VALUE: its DEPTH then (1; 7: it is not of the TREE).");
        from(FULL);
        run("jump(1, 2) = 0", "here() = 1/2", "told(5) = 6", "jump(4999, 9998) = 0", "told(5) = 6",
            "jump(1, 9999) = 9997", "here() = 1/9999", "jump(9998, 9999) = 9997", "told(5) = 8",
            "jump(0, 1) ! 7", "jump(0, 9999) ! 7", "jump(1, 1) ! 7", "jump(9999, 9999) ! 7",
            "jump(2, 1) ! 1", "jump(1, 10000) ! 1", "here() = 9998/9999");
        run("jump(30, 50) = 2", "here() = 3/5", "go(1) = 3", "here() = 5/8");
    }

    private static void visited() {
        says("VISITED: the unlike VALUES where it was or is, the first 200 of them.",
            ": 1 if a VALUE is VISITED, else 0 (1).");
        from("tours{loop 99;left;end;}", "live(0)", "live(0)");
        run("told(5) = 199", "wasAt(1, 2) = 1", "wasAt(1, 200) = 1", "wasAt(1, 201) = 0",
            "go(0) = 199", "told(5) = 200", "wasAt(1, 201) = 1", "go(0) = 200", "told(5) = 200",
            "wasAt(1, 202) = 0", "here() = 1/202", "flip() = 200", "wasAt(201, 202) = 0",
            "up() = 199", "wasAt(200, 201) = 0", "jump(2, 3) = 1", "wasAt(2, 3) = 0",
            "jump(2, 4) = 0", "wasAt(5, 10) = 1", "told(5) = 200");
        run("mark()", "jump(2, 3)", "told(5) = 200", "jump(3, 4)", "wasAt(3, 4) = 0", "undo()",
            "told(5) = 199", "wasAt(2, 3) = 0", "jump(3, 4)", "wasAt(3, 4) = 1", "told(5) = 200");
        run("live(0) = 100", "told(5) = 200", "told(6) = 297", "wasAt(1, 201) = 1",
            "wasAt(1, 202) = 0", "study{} = 0", "told(5) = 1", "wasAt(1, 3) = 0", "go(1)",
            "wasAt(2, 3) = 1", "told(5) = 2");
        from();
        run("told(5) = 1", "wasAt(1, 2) = 1", "wasAt(4999, 9998) = 1", "wasAt(0, 1) = 0",
            "wasAt(1, 1) = 0", "wasAt(1, 3) = 0", "up() ! 6", "flip()", "jump(2, 4)",
            "jump(0, 1) ! 7", "told(5) = 1");
        run("go(0)", "up()", "go(0)", "up()", "told(5) = 2", "wasAt(3333, 9999) = 1",
            "wasAt(2, 3) = 0");
        from(FULL);
        run("wasAt(0, 9999) = 0", "wasAt(9999, 9999) = 0", "wasAt(6, 11) = 1", "wasAt(2, 5) = 1",
            "wasAt(1, 2) = 0", "jump(4, 10) = 2", "told(5) = 5");
    }

    private static void rule() {
        says(": ORDER (what 0), ODDS (1) from now on: how many VALUES ROW has then (1; 7: it is so).");
        from(FULL);
        range("rule(#, 8)", 0, 1);
        range("rule(0, #)", 1, 200);
        range("rule(1, #)", 0, 16);
        run("rule(0, 7) ! 7", "rule(1, 9) ! 7", "rule(2, 7) ! 1", "rule(-1, 9) ! 1",
            "rule(0, 1) = 2", "told(0) = 1", "rule(0, 1) ! 7", "rule(1, 0) = 2", "told(1) = 0",
            "rule(1, 0) ! 7", "rule(0, 200) = 12233", "rule(0, 200) ! 7", "rule(1, 16) = 12233",
            "rule(1, 16) ! 7", "rule(0, 201) ! 1", "rule(1, 17) ! 1", "rule(0, 0) ! 1",
            "rule(1, -1) ! 1", "told(0) = 200", "told(1) = 16");
        from();
        run("rule(0, 5) ! 7", "rule(1, 4) ! 7", "rule(0, 4) = 7", "rule(1, 5) = 7", "rule(0, 5) = 11",
            "rule(1, 4) = 11");
    }
}
