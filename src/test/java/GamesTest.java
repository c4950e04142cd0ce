/** Promises 52 to 55: games, odds, a part of ROW. */
public final class GamesTest {
    public static void main(String[] args) {
        games();
        wrong();
        part();
        Check.end();
    }

    private static void games() {
        FareyRank x = new FareyRank();
        Model model = new Model();
        int[][] from = {{1, 2}, {1, 3}, {3, 5}, {10, 14}, {4181, 6765}, {1, 9999}, {5000, 9999}};
        for (int[] f : from) {
            for (int n = 0; n <= 10; n++) {
                String of = "(" + f[0] + ", " + f[1] + ", " + n + ")";
                Check.due(x, "game" + of, x.game(f[0], f[1], n), model.game(f[0], f[1], n), 0);
                if (n > 0) {
                    Check.due(x, "moveOf" + of, x.moveOf(f[0], f[1], n),
                        model.moveOf(f[0], f[1], n), 0);
                }
            }
        }
        // from 2 by 3 (between 1 by 2 and 1 by 1): LEFT 5, RIGHT 4
        Check.due("game(2, 3, 1)", x.game(2, 3, 1), 5);
        Check.due("moveOf(2, 3, 1)", x.moveOf(2, 3, 1), 0);
        // LEFT 3 by 5, then 7 or 8; RIGHT 3 by 4, then 7 or 5
        Check.due("game(2, 3, 2)", x.game(2, 3, 2), 7);
        Check.due("moveOf(2, 3, 2)", x.moveOf(2, 3, 2), 0);
        Check.due("moveOf(1, 2, 1): both as good", x.moveOf(1, 2, 1), 0);
        Check.refused(x, "game(0, 2, 1)", x.game(0, 2, 1), 7);
        Check.refused(x, "game(2, 2, 1)", x.game(2, 2, 1), 7);
        Check.refused(x, "game(0, 2, 11)", x.game(0, 2, 11), 1);
        Check.refused(x, "game(1, 2, -1)", x.game(1, 2, -1), 1);
        Check.refused(x, "game(3, 2, 1)", x.game(3, 2, 1), 1);
        Check.refused(x, "moveOf(1, 2, 0)", x.moveOf(1, 2, 0), 1);
        Check.refused(x, "moveOf(1, 2, 11)", x.moveOf(1, 2, 11), 1);
        Check.refused(x, "moveOf(1, 2, -1)", x.moveOf(1, 2, -1), 1);
        Check.refused(x, "moveOf(0, 2, 1)", x.moveOf(0, 2, 1), 7);
        Check.refused(x, "moveOf(0, 2, 0)", x.moveOf(0, 2, 0), 1);
        Check.refused(x, "moveOf(1, 10000, 1)", x.moveOf(1, 10_000, 1), 1);
        Check.due("told(6): the WALKER stays", x.told(6), 0);
    }

    private static void wrong() {
        for (int odds = 16; odds >= 0; odds--) {
            Model model = new Model();
            if (odds != 4) {
                model.rule(1, odds);
            }
            for (int n = 0; n <= 12; n++) {
                FareyRank x = new FareyRank();
                x.rule(1, odds);
                for (int k = 0; k <= 12; k++) {
                    model.wrong(n, k);
                    Check.tells(x, "wrong(" + n + ", " + k + ") by ODDS " + odds, x.wrong(n, k),
                        model.told.top(), model.told.bottom());
                }
            }
        }
        FareyRank x = new FareyRank();
        Check.tells(x, "wrong(2, 1)", x.wrong(2, 1), 7, 16);
        Check.tells(x, "wrong(0, 0)", x.wrong(0, 0), 1, 1);
        Check.tells(x, "wrong(0, 1)", x.wrong(0, 1), 0, 1);
        Check.refused(x, "wrong(13, 0)", x.wrong(13, 0), 1);
        Check.refused(x, "wrong(0, 13)", x.wrong(0, 13), 1);
        Check.refused(x, "wrong(-1, 0)", x.wrong(-1, 0), 1);
        Check.refused(x, "wrong(0, -1)", x.wrong(0, -1), 1);
    }

    private static void part() {
        FareyRank x = new FareyRank();
        Check.tells(x, "part(1)", x.part(1), 2, 11);
        Check.tells(x, "part(4)", x.part(4), 7, 11);
        Check.tells(x, "part(5)", x.part(5), 1, 1);
        Check.tells(x, "part(200)", x.part(200), 1, 1);
        x.rule(0, 200);
        Check.tells(x, "part(199) of 200", x.part(199), 12_153, 12_233);
        Check.tells(x, "part(200) of 200", x.part(200), 1, 1);
        Check.refused(x, "part(0)", x.part(0), 1);
        Check.refused(x, "part(-1)", x.part(-1), 1);
        Check.refused(x, "part(201)", x.part(201), 1);
    }
}
