/** Promises 34 to 40: the WALKER, VISITED, what is ruled. */
public final class WalkerTest {
    public static void main(String[] args) {
        goAndUp();
        flip();
        jump();
        visited();
        rule();
        Check.end();
    }

    private static void goAndUp() {
        FareyRank x = new FareyRank();
        Check.refused(x, "up() from 1 by 2", x.up(), 6);
        Check.refused(x, "go(2)", x.go(2), 1);
        Check.refused(x, "go(-1)", x.go(-1), 1);
        Check.tells(x, "here()", x.here(), 1, 2);
        Check.due(x, "go(1)", x.go(1), 1, 0);
        Check.tells(x, "here() behind 1", x.here(), 2, 3);
        Check.due(x, "go(0)", x.go(0), 2, 0);
        Check.tells(x, "here() behind 10", x.here(), 3, 5);
        Check.due(x, "go(0)", x.go(0), 3, 0);
        Check.tells(x, "here() behind 100", x.here(), 4, 7);
        Check.due(x, "go(1)", x.go(1), 4, 0);
        Check.tells(x, "here() behind 1001", x.here(), 7, 12);
        int[][] back = {{4, 7}, {3, 5}, {2, 3}, {1, 2}};
        for (int i = 0; i < back.length; i++) {
            Check.due(x, "up()", x.up(), 3 - i, 0);
            Check.tells(x, "here() behind up()", x.here(), back[i][0], back[i][1]);
        }
        Check.refused(x, "up() at the top again", x.up(), 6);
        x.jump(1, 9999);
        Check.refused(x, "go(0) above 9,999", x.go(0), 7);
        Check.refused(x, "go(1) above 9,999", x.go(1), 7);
        Check.refused(x, "go(2) above 9,999", x.go(2), 1);
        Check.tells(x, "here() stays", x.here(), 1, 9999);
        x.jump(1, 9998);
        Check.refused(x, "go(1) above 9,999", x.go(1), 7);
        Check.due(x, "go(0) to 9,999", x.go(0), 9997, 0);
        x.jump(4181, 6765);
        Check.refused(x, "go(0) to 6765 and 4181", x.go(0), 7);
        Check.due("told(6) stays", x.told(6), 17);
        Check.due(x, "go(1) to 6765 and 2584", x.go(1), 18, 0);
        Check.tells(x, "here()", x.here(), 5778, 9349);
        x.jump(4999, 9997);
        Check.due(x, "go(0) to 9,997 and 2", x.go(0), 4999, 0);
        x.jump(4999, 9998);
        Check.tells(x, "here() of 4999 by 9998", x.here(), 1, 2);
    }

    private static void flip() {
        FareyRank x = new FareyRank();
        Check.due(x, "flip() of 1 by 2", x.flip(), 0, 0);
        Check.tells(x, "here()", x.here(), 1, 2);
        Check.due("told(5)", x.told(5), 1);
        x.jump(2, 7);
        Check.due(x, "flip() of 2 by 7", x.flip(), 3, 0);
        Check.tells(x, "here()", x.here(), 5, 7);
        Check.due("told(5)", x.told(5), 3);
        Check.due(x, "go(1) behind flip()", x.go(1), 4, 0);
        Check.tells(x, "here()", x.here(), 8, 11);
        Check.due(x, "up() behind flip()", x.up(), 3, 0);
        Check.due(x, "up() behind flip()", x.up(), 2, 0);
        Check.tells(x, "here()", x.here(), 3, 4);
    }

    private static void jump() {
        FareyRank x = new FareyRank();
        Check.refused(x, "jump(0, 3)", x.jump(0, 3), 7);
        Check.refused(x, "jump(3, 3)", x.jump(3, 3), 7);
        Check.refused(x, "jump(4, 3)", x.jump(4, 3), 1);
        Check.refused(x, "jump(1, 10000)", x.jump(1, 10_000), 1);
        Check.due("told(5) stays", x.told(5), 1);
        Check.due(x, "jump(30, 50)", x.jump(30, 50), 2, 0);
        Check.tells(x, "here()", x.here(), 3, 5);
        Check.due(x, "go(0) behind jump()", x.go(0), 3, 0);
        Check.tells(x, "here()", x.here(), 4, 7);
        Check.due("wasAt(3, 5)", x.wasAt(3, 5), 1);
        Check.due("wasAt(2, 3): it was not on the way", x.wasAt(2, 3), 0);
    }

    private static void visited() {
        FareyRank x = new FareyRank();
        for (int bottom = 3; bottom <= 201; bottom++) {
            x.jump(1, bottom);
            Check.due("told(5)", x.told(5), bottom - 1);
        }
        Check.due("told(5), full", x.told(5), 200);
        x.jump(1, 202);
        Check.due("told(5) stays at 200", x.told(5), 200);
        Check.due("wasAt(1, 202): a 201st", x.wasAt(1, 202), 0);
        Check.due("wasAt(2, 402)", x.wasAt(2, 402), 1);
        Check.due("wasAt(1, 2)", x.wasAt(1, 2), 1);
        Check.due("wasAt(5, 10)", x.wasAt(5, 10), 1);
        x.jump(1, 100);
        Check.due("told(5) of one that was", x.told(5), 200);
        Check.due("wasAt(0, 1)", x.wasAt(0, 1), 0);
        Check.due("wasAt(1, 1)", x.wasAt(1, 1), 0);
        Check.refused(x, "wasAt(2, 1)", x.wasAt(2, 1), 1);
        Check.refused(x, "wasAt(1, 0)", x.wasAt(1, 0), 1);
        FareyRank y = new FareyRank();
        y.go(0);
        y.up();
        y.go(1);
        y.flip();
        Check.due("told(5) of unlike ones", y.told(5), 3);
        FareyRank z = new FareyRank();
        z.jump(1, 4);
        Check.due("wasAt(2, 3), not 1 by 4", z.wasAt(2, 3), 0);
        Check.due("wasAt(3, 4), not 1 by 4", z.wasAt(3, 4), 0);
        Check.due("wasAt(1, 3), not 1 by 4", z.wasAt(1, 3), 0);
        z.jump(2, 3);
        Check.due("told(5) of 1 by 2, 1 by 4, 2 by 3", z.told(5), 3);
    }

    private static void rule() {
        FareyRank x = new FareyRank();
        Check.refused(x, "rule(0, 5)", x.rule(0, 5), 7);
        Check.refused(x, "rule(1, 4)", x.rule(1, 4), 7);
        Check.refused(x, "rule(0, 0)", x.rule(0, 0), 1);
        Check.refused(x, "rule(0, 201)", x.rule(0, 201), 1);
        Check.refused(x, "rule(1, -1)", x.rule(1, -1), 1);
        Check.refused(x, "rule(1, 17)", x.rule(1, 17), 1);
        Check.refused(x, "rule(2, 5)", x.rule(2, 5), 1);
        Check.refused(x, "rule(-1, 5)", x.rule(-1, 5), 1);
        Check.due(x, "rule(0, 1)", x.rule(0, 1), 2, 0);
        Check.due(x, "rule(1, 0)", x.rule(1, 0), 2, 0);
        Check.due(x, "rule(0, 200)", x.rule(0, 200), 12_233, 0);
        Check.due(x, "rule(1, 16)", x.rule(1, 16), 12_233, 0);
        Check.due("told(0)", x.told(0), 200);
        Check.due("told(1)", x.told(1), 16);
        Check.refused(x, "rule(0, 200) once more", x.rule(0, 200), 7);
    }
}
