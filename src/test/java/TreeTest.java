/** Promises 26 to 33: the tree, TERMS, DIGITS. */
public final class TreeTest {
    public static void main(String[] args) {
        depthsAndTurns();
        parents();
        follow();
        terms();
        digits();
        digitAt();
        Check.end();
    }

    private static void depthsAndTurns() {
        for (Model.Frac f : Model.rowOf(40)) {
            FareyRank x = new FareyRank();
            int top = (int) f.top();
            int bottom = (int) f.bottom();
            if (!f.ofTree()) {
                continue;
            }
            java.util.List<Integer> way = Model.way(f, new Model.Frac[2]);
            Check.due(x, "depth of " + f, x.depth(3 * top, 3 * bottom), way.size(), 0);
            for (int k = 0; k < way.size(); k++) {
                Check.due(x, "turn " + k + " to " + f, x.turnAt(2 * top, 2 * bottom, k),
                    way.get(k), 0);
            }
            Check.refused(x, "no such turn to " + f, x.turnAt(top, bottom, way.size()), 6);
        }
        FareyRank x = new FareyRank();
        Check.due("depth(1, 9999)", x.depth(1, 9999), 9997);
        Check.due("depth(9998, 9999)", x.depth(9998, 9999), 9997);
        Check.due("depth(4181, 6765)", x.depth(4181, 6765), 17);
        Check.due("depth(5000, 9999)", x.depth(5000, 9999), 4999);
        Check.refused(x, "depth(0, 4)", x.depth(0, 4), 7);
        Check.refused(x, "depth(4, 4)", x.depth(4, 4), 7);
        Check.refused(x, "depth(5, 4)", x.depth(5, 4), 1);
        Check.refused(x, "depth(0, 0)", x.depth(0, 0), 1);
        Check.due("turnAt(1, 9999, 9996)", x.turnAt(1, 9999, 9996), 0);
        Check.due("turnAt(9998, 9999, 9996)", x.turnAt(9998, 9999, 9996), 1);
        Check.due("turnAt(5000, 9999, 0)", x.turnAt(5000, 9999, 0), 1);
        Check.due("turnAt(5000, 9999, 4998)", x.turnAt(5000, 9999, 4998), 0);
        Check.refused(x, "turnAt(1, 9999, 9997)", x.turnAt(1, 9999, 9997), 6);
        Check.refused(x, "turnAt(1, 2, 0)", x.turnAt(1, 2, 0), 6);
        Check.refused(x, "turnAt(1, 3, MAX)", x.turnAt(1, 3, Integer.MAX_VALUE), 6);
        Check.refused(x, "turnAt(1, 3, -1)", x.turnAt(1, 3, -1), 1);
        Check.refused(x, "turnAt(0, 3, 99)", x.turnAt(0, 3, 99), 7);
        Check.refused(x, "turnAt(3, 3, -1)", x.turnAt(3, 3, -1), 1);
        Check.refused(x, "turnAt(4, 3, 0)", x.turnAt(4, 3, 0), 1);
    }

    private static void parents() {
        FareyRank x = new FareyRank();
        for (Model.Frac f : Model.rowOf(40)) {
            x = new FareyRank();
            if (f.bottom() > 2) {
                Model.Frac p = Model.parentOf(f);
                Check.tells(x, "parent of " + f, x.parent((int) f.top() * 7, (int) f.bottom() * 7),
                    p.top(), p.bottom());
            }
        }
        Check.tells(x, "parent(1, 9999)", x.parent(1, 9999), 1, 9998);
        Check.tells(x, "parent(5000, 9999)", x.parent(5000, 9999), 4999, 9997);
        Check.refused(x, "parent(1, 2)", x.parent(1, 2), 6);
        Check.refused(x, "parent(7, 14)", x.parent(7, 14), 6);
        Check.refused(x, "parent(0, 2)", x.parent(0, 2), 7);
        Check.refused(x, "parent(1, 1)", x.parent(1, 1), 7);
        Check.refused(x, "parent(3, 1)", x.parent(3, 1), 1);
    }

    private static void follow() {
        FareyRank x = new FareyRank();
        Check.refused(x, "follow(-1, 0)", x.follow(-1, 0), 1);
        Check.refused(x, "follow(4, 0)", x.follow(4, 0), 1);
        Check.refused(x, "follow(0, -1)", x.follow(0, -1), 1);
        Check.refused(x, "follow(0, 21)", x.follow(0, 21), 1);
        Check.refused(x, "follow(0, 20) of a MISSING one", x.follow(0, 20), 2);
        x.tray(0, 3, 19);
        Check.refused(x, "follow(0, 20) of 19", x.follow(0, 20), 3);
        Check.tells(x, "follow(0, 19)", x.follow(0, 19), 1, 21);
        Check.tells(x, "follow(0, 0)", x.follow(0, 0), 1, 2);
        x.tray(1, 0, 60);
        for (int i = 0; i < 20; i++) {
            x.write(1, i, i % 2);
        }
        x.write(1, 20, 7);
        Check.tells(x, "follow(1, 20), to and fro", x.follow(1, 20), 10_946, 28_657);
        x.write(1, 3, 2);
        Check.refused(x, "follow(1, 4) of a 2", x.follow(1, 4), 5);
        Check.tells(x, "follow(1, 3) ahead of a 2", x.follow(1, 3), 3, 8);
        x.write(1, 0, -1);
        Check.refused(x, "follow(1, 1) of a -1", x.follow(1, 1), 5);
        x.write(0, 0, 1L << 32);
        Check.refused(x, "follow(0, 1) of a great number", x.follow(0, 1), 5);
        Check.due("told(6): the WALKER stays", x.told(6), 0);
    }

    private static void terms() {
        FareyRank x = new FareyRank();
        int[] due = {0, 2, 3, 4, 5};
        // 68 by 157 is 0 and 1 by (2 and 1 by (3 and 1 by (4 and 1 by 5)))
        Check.due("terms(68, 157)", x.terms(68, 157), 5);
        for (int k = 0; k < due.length; k++) {
            Check.due(x, "termAt(136, 314, " + k + ")", x.termAt(136, 314, k), due[k], 0);
        }
        Check.refused(x, "termAt(68, 157, 5)", x.termAt(68, 157, 5), 6);
        Check.refused(x, "termAt(68, 157, MAX)", x.termAt(68, 157, Integer.MAX_VALUE), 6);
        Check.refused(x, "termAt(68, 157, -1)", x.termAt(68, 157, -1), 1);
        Check.refused(x, "termAt(158, 157, 0)", x.termAt(158, 157, 0), 1);
        Check.due("terms(0, 9)", x.terms(0, 9), 1);
        Check.due("terms(9, 9)", x.terms(9, 9), 1);
        Check.due("terms(1, 2)", x.terms(1, 2), 2);
        Check.due("terms(4181, 6765)", x.terms(4181, 6765), 19);
        Check.due("termAt(4181, 6765, 18)", x.termAt(4181, 6765, 18), 2);
        Check.due("termAt(4181, 6765, 17)", x.termAt(4181, 6765, 17), 1);
        Check.due("termAt(0, 9, 0)", x.termAt(0, 9, 0), 0);
        Check.due("termAt(9, 9, 0)", x.termAt(9, 9, 0), 1);
        Check.due("termAt(1, 9999, 1)", x.termAt(1, 9999, 1), 9999);
        Check.refused(x, "termAt(9, 9, 1)", x.termAt(9, 9, 1), 6);
        Check.refused(x, "terms(1, 0)", x.terms(1, 0), 1);
    }

    private static void digits() {
        FareyRank x = new FareyRank();
        int[][] due = {{1, 6, 1, 1}, {1, 7, 0, 6}, {3, 8, 3, 0}, {0, 7, 0, 0}, {7, 7, 0, 0},
            {1, 3, 0, 1}, {2, 6, 0, 1}, {1, 28, 2, 6}, {1, 9967, 0, 9966}, {1, 8192, 13, 0},
            {1, 3125, 5, 0}, {1, 9999, 0, 4}, {1, 9998, 1, 357}, {8192, 8192, 0, 0},
            {4096, 8192, 1, 0}, {7, 12, 2, 1}, {9966, 9967, 0, 9966}, {1, 9600, 7, 1}};
        for (int[] d : due) {
            String of = "digits(" + d[0] + ", " + d[1] + ", ";
            Check.due(x, of + "0)", x.digits(d[0], d[1], 0), d[2], 0);
            Check.due(x, of + "1)", x.digits(d[0], d[1], 1), d[3], 0);
        }
        Check.refused(x, "digits(1, 7, 2)", x.digits(1, 7, 2), 1);
        Check.refused(x, "digits(1, 7, -1)", x.digits(1, 7, -1), 1);
        Check.refused(x, "digits(8, 7, 0)", x.digits(8, 7, 0), 1);
        Check.refused(x, "digits(1, 10000, 0)", x.digits(1, 10_000, 0), 1);
    }

    private static void digitAt() {
        FareyRank x = new FareyRank();
        int[][] some = {{1, 7}, {0, 3}, {5, 5}, {3, 8}, {9998, 9999}, {1, 9967}, {2, 14}, {1, 9999}};
        for (int[] f : some) {
            java.math.BigInteger all = java.math.BigInteger.TEN.pow(10_000)
                .multiply(java.math.BigInteger.valueOf(f[0] % f[1]))
                .divide(java.math.BigInteger.valueOf(f[1]));
            String text = "0".repeat(10_000).concat(all.toString());
            text = text.substring(text.length() - 10_000);
            for (int k : new int[] {0, 1, 2, 3, 4, 5, 6, 7, 100, 1023, 1024, 8191, 9998, 9999}) {
                Check.due(x, "digitAt(" + f[0] + ", " + f[1] + ", " + k + ")",
                    x.digitAt(f[0], f[1], k), text.charAt(k) - '0', 0);
            }
        }
        Check.refused(x, "digitAt(1, 7, -1)", x.digitAt(1, 7, -1), 1);
        Check.refused(x, "digitAt(1, 7, 10000)", x.digitAt(1, 7, 10_000), 1);
        Check.refused(x, "digitAt(8, 7, 0)", x.digitAt(8, 7, 0), 1);
    }
}
