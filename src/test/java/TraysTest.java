/** Promises 1 to 8: a new object, status, top, bottom, the TRAYS. */
public final class TraysTest {
    public static void main(String[] args) {
        newObject();
        statusAndFraction();
        trays();
        writeAndRead();
        pour();
        Check.end();
    }

    private static void newObject() {
        FareyRank x = new FareyRank();
        Check.due("status() of a new object", x.status(), 0);
        Check.due("top() of a new object", x.top(), 0);
        Check.due("bottom() of a new object", x.bottom(), 1);
        Check.due("fault(0) ahead of any", x.fault(0), -1);
        Check.due("fault(1) ahead of any", x.fault(1), -1);
        int[] due = {5, 4, 0, 0, 11, 1, 0};
        for (int what = 0; what < due.length; what++) {
            Check.due(x, "told(" + what + ") of a new object", x.told(what), due[what], 0);
        }
        Check.tells(x, "here() of a new object", x.here(), 1, 2);
        Check.due("wasAt(1, 2) of a new object", x.wasAt(1, 2), 1);
        for (int tray = 0; tray < 4; tray++) {
            Check.refused(x, "read(" + tray + ", 0) of a new object", x.read(tray, 0), 2);
        }
        Check.refused(x, "study(1) of an empty tape", x.study(1), 1);
        Check.refused(x, "live(0) without TOURS", x.live(0), 6);
        Check.refused(x, "mean(0, 1) without TOURS", x.mean(0, 1), 6);
        Check.refused(x, "lived(0) ahead of any", x.lived(0), 6);
        Check.refused(x, "undo() without MARKS", x.undo(), 6);
        FareyRank y = new FareyRank();
        y.pin(1, 3, 5);
        y.go(0);
        Check.due("told(2) of another object", x.told(2), 0);
        Check.due("told(6) of another object", x.told(6), 0);
    }

    private static void statusAndFraction() {
        FareyRank x = new FareyRank();
        x.told(9);
        Check.due("status() behind a refused call", x.status(), 1);
        x.status();
        x.top();
        x.bottom();
        x.fault(0);
        x.feed(0, 0, 0, 0, 0);
        Check.due("status() behind calls that have none", x.status(), 1);
        x.told(0);
        Check.due("status() behind a call that is answered", x.status(), 0);
        x.fraction(4);
        Check.refused(x, "fraction(11)", x.fraction(11), 6);
        Check.due("top() stays with a refused call", x.top(), 2);
        Check.due("bottom() stays with a refused call", x.bottom(), 5);
        x.told(0);
        x.rank(1, 2);
        Check.due("top() stays with a call that tells none", x.top(), 2);
        x.pin(0, 7, 3);
        Check.tells(x, "pinAt(0)", x.pinAt(0), 0, 1);
        Check.tells(x, "wrong(12, 12)", x.wrong(12, 12), 1, 16_777_216L);
        x.rule(1, 1);
        Check.tells(x, "wrong(12, 12) by ODDS 1", x.wrong(12, 12), 1, 281_474_976_710_656L);
    }

    private static void trays() {
        FareyRank x = new FareyRank();
        int[][] wrong = {{-1, 0, 1}, {4, 0, 1}, {0, -1, 1}, {0, 4, 1}, {0, 0, -1}, {0, 0, 61},
            {Integer.MIN_VALUE, 0, 0}, {0, Integer.MAX_VALUE, 0}, {0, 0, Integer.MAX_VALUE}};
        for (int[] w : wrong) {
            Check.refused(x, "tray(" + w[0] + ", " + w[1] + ", " + w[2] + ")",
                x.tray(w[0], w[1], w[2]), 1);
        }
        Check.refused(x, "read(0, 0) behind refused trays", x.read(0, 0), 2);
        Check.due("tray(0, 0, 0)", x.tray(0, 0, 0), true);
        Check.refused(x, "read(0, 0) of an empty TRAY", x.read(0, 0), 3);
        Check.due("tray(3, 3, 60)", x.tray(3, 3, 60), true);
        Check.due(x, "read(3, 59)", x.read(3, 59), 0, 0);
        x.write(3, 59, 77);
        x.write(3, 0, 78);
        x.tray(3, 3, 60);
        Check.due(x, "read(3, 59) of a TRAY made anew", x.read(3, 59), 0, 0);
        Check.due(x, "read(3, 0) of a TRAY made anew", x.read(3, 0), 0, 0);
        x.write(3, 59, 77);
        Check.refused(x, "tray(3, 4, 2)", x.tray(3, 4, 2), 1);
        Check.due(x, "read(3, 59) behind a refused tray", x.read(3, 59), 77, 0);
        x.tray(3, 0, 5);
        x.tray(3, 0, 60);
        Check.due(x, "read(3, 59) of a TRAY made longer", x.read(3, 59), 0, 0);
    }

    private static void writeAndRead() {
        FareyRank x = new FareyRank();
        Check.refused(x, "write(4, 0, 1)", x.write(4, 0, 1), 1);
        Check.refused(x, "write(-1, 0, 1)", x.write(-1, 0, 1), 1);
        Check.refused(x, "write(0, 0, 1)", x.write(0, 0, 1), 2);
        Check.refused(x, "write(0, -1, 1) of a MISSING one", x.write(0, -1, 1), 2);
        Check.refused(x, "read(4, 0)", x.read(4, 0), 1);
        Check.refused(x, "read(-1, 0)", x.read(-1, 0), 1);
        long number = 0x8F_9E_AD_BC_CB_DA_E9_F8L;
        long[] cut = {(byte) number, (short) number, (int) number, number};
        for (int sort = 0; sort < 4; sort++) {
            x.tray(sort, sort, 3);
            Check.due("write(" + sort + ", 1, ..)", x.write(sort, 1, number), true);
            Check.due(x, "read(" + sort + ", 1)", x.read(sort, 1), cut[sort], 0);
            Check.due(x, "read(" + sort + ", 0)", x.read(sort, 0), 0, 0);
            Check.due(x, "read(" + sort + ", 2)", x.read(sort, 2), 0, 0);
            Check.refused(x, "write(" + sort + ", 3, 1)", x.write(sort, 3, 1), 3);
            Check.refused(x, "write(" + sort + ", -1, 1)", x.write(sort, -1, 1), 3);
            Check.refused(x, "read(" + sort + ", 3)", x.read(sort, 3), 3);
            Check.refused(x, "read(" + sort + ", -1)", x.read(sort, -1), 3);
            x.write(sort, 2, -1);
            Check.due(x, "read(" + sort + ", 2) of -1", x.read(sort, 2), -1, 0);
        }
        Check.refused(x, "read(0, MAX)", x.read(0, Integer.MAX_VALUE), 3);
        Check.refused(x, "read(0, MIN)", x.read(0, Integer.MIN_VALUE), 3);
        x.write(0, 0, 127);
        Check.due("read(0, 0) of 127", x.read(0, 0), 127);
        x.write(0, 0, 128);
        Check.due("read(0, 0) of 128", x.read(0, 0), -128);
        x.write(0, 0, 256);
        Check.due("read(0, 0) of 256", x.read(0, 0), 0);
    }

    private static void pour() {
        FareyRank x = new FareyRank();
        x.tray(0, 2, 5);
        x.tray(1, 2, 5);
        x.tray(2, 3, 3);
        for (int i = 0; i < 5; i++) {
            x.write(0, i, i + 1);
        }
        Check.refused(x, "pour(4, ..)", x.pour(4, 0, 1, 0, 1), 1);
        Check.refused(x, "pour(.., -1, ..)", x.pour(0, 0, -1, 0, 1), 1);
        Check.refused(x, "pour, place below 0", x.pour(0, -1, 3, 0, 1), 1);
        Check.refused(x, "pour, at below 0", x.pour(0, 0, 3, -1, 1), 1);
        Check.refused(x, "pour, many below 0", x.pour(0, 0, 3, 0, -1), 1);
        Check.refused(x, "pour to a MISSING one", x.pour(0, 9, 3, 0, 1), 2);
        Check.refused(x, "pour from a MISSING one", x.pour(3, 0, 0, 0, 1), 2);
        Check.refused(x, "pour of unlike sorts", x.pour(0, 9, 2, 9, 99), 8);
        Check.refused(x, "pour, too few numbers", x.pour(0, 3, 1, 0, 3), 3);
        Check.refused(x, "pour, too few places", x.pour(0, 0, 1, 3, 3), 3);
        Check.refused(x, "pour, as many as can be", x.pour(0, 1, 1, 0, Integer.MAX_VALUE), 3);
        Check.refused(x, "pour, a place far off", x.pour(0, Integer.MAX_VALUE, 1, 0, 1), 3);
        Check.refused(x, "pour of none from beyond", x.pour(0, 6, 1, 0, 0), 3);
        Check.due("read(1, 0) behind refused pours", x.read(1, 0), 0);
        Check.due("pour(0, 1, 1, 2, 3)", x.pour(0, 1, 1, 2, 3), true);
        Check.due("status() of a pour", x.status(), 0);
        row(x, 1, "0 0 2 3 4");
        row(x, 0, "1 2 3 4 5");
        Check.due("pour of its own, on", x.pour(0, 0, 0, 1, 4), true);
        row(x, 0, "1 1 2 3 4");
        Check.due("pour of its own, back", x.pour(0, 2, 0, 0, 3), true);
        row(x, 0, "2 3 4 3 4");
        Check.due("pour of none", x.pour(0, 5, 1, 5, 0), true);
        Check.due("pour of all", x.pour(0, 0, 1, 0, 5), true);
        row(x, 1, "2 3 4 3 4");
    }

    private static void row(FareyRank x, int tray, String want) {
        StringBuilder got = new StringBuilder();
        for (int i = 0; i < 5; i++) {
            got.append(i == 0 ? "" : " ").append(x.read(tray, i));
        }
        Check.due("the TRAY " + tray, got.toString(), want);
    }
}
