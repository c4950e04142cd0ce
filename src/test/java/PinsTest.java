/** Promises 41 to 51: PINS. */
public final class PinsTest {
    public static void main(String[] args) {
        pinAndLift();
        limits();
        inOrder();
        heaviestAndMiddle();
        gap();
        share();
        pinsOfRow();
        copyPins();
        Check.end();
    }

    private static void pinAndLift() {
        FareyRank x = new FareyRank();
        Check.due(x, "pin(2, 4, 99)", x.pin(2, 4, 99), 99, 0);
        Check.due(x, "pin(1, 2, 1)", x.pin(1, 2, 1), 100, 0);
        Check.due(x, "pin(0, 9, 3)", x.pin(0, 9, 3), 3, 0);
        Check.due(x, "pin(9, 9, 4)", x.pin(9, 9, 4), 4, 0);
        Check.due("told(2)", x.told(2), 3);
        Check.due("told(3)", x.told(3), 107);
        Check.due(x, "weight(50, 100)", x.weight(50, 100), 100, 0);
        Check.refused(x, "weight(1, 3)", x.weight(1, 3), 6);
        Check.refused(x, "weight(3, 1)", x.weight(3, 1), 1);
        Check.refused(x, "pin(1, 3, 0)", x.pin(1, 3, 0), 1);
        Check.refused(x, "pin(1, 3, 100)", x.pin(1, 3, 100), 1);
        Check.refused(x, "pin(1, 3, -1)", x.pin(1, 3, -1), 1);
        Check.refused(x, "pin(4, 3, 1)", x.pin(4, 3, 1), 1);
        Check.refused(x, "lift(1, 3)", x.lift(1, 3), 6);
        Check.refused(x, "lift(4, 3)", x.lift(4, 3), 1);
        Check.due("told(2) behind refused calls", x.told(2), 3);
        Check.due(x, "lift(3, 6)", x.lift(3, 6), 100, 0);
        Check.refused(x, "lift(3, 6) once more", x.lift(3, 6), 6);
        Check.due("told(3) behind lift()", x.told(3), 7);
        Check.tells(x, "pinAt(0) behind lift()", x.pinAt(0), 0, 1);
        x.pin(1, 2, 6);
        Check.due("weight(1, 2) anew", x.weight(1, 2), 6);
        Check.tells(x, "pinAt(2): behind all that are", x.pinAt(2), 1, 2);
    }

    private static void limits() {
        FareyRank x = new FareyRank();
        for (int i = 0; i < 10; i++) {
            x.pin(1, 2, 99);
        }
        Check.refused(x, "pin to 1000", x.pin(1, 2, 10), 7);
        Check.due("weight(1, 2) stays", x.weight(1, 2), 990);
        Check.due(x, "pin to 999", x.pin(1, 2, 9), 999, 0);
        Check.refused(x, "pin above 999", x.pin(1, 2, 1), 7);
        for (int i = 1; i < 12; i++) {
            x.pin(i, 13, 1);
        }
        Check.refused(x, "a 13th", x.pin(12, 13, 1), 4);
        Check.refused(x, "a 13th, a WEIGHT of 0", x.pin(12, 13, 0), 1);
        Check.due(x, "a PIN of the 12", x.pin(11, 13, 1), 2, 0);
        Check.refused(x, "above 999 of 12", x.pin(1, 2, 1), 7);
        x.lift(1, 13);
        Check.due(x, "a 12th again", x.pin(12, 13, 1), 1, 0);
        Check.tells(x, "pinAt(11)", x.pinAt(11), 12, 13);
        Check.tells(x, "pinAt(1)", x.pinAt(1), 2, 13);
        Check.tells(x, "heaviest() of 12", x.heaviest(), 1, 2);
        Check.tells(x, "middle() of 12", x.middle(), 1, 2);
        Check.tells(x, "gap() of 12", x.gap(), 2, 13);
        Check.tells(x, "risingAt(11) of 12", x.risingAt(11), 12, 13);
        Check.tells(x, "share(1, 1) of 12", x.share(1, 1), 1, 1);
    }

    private static void inOrder() {
        FareyRank x = new FareyRank();
        Check.refused(x, "pinAt(0) of none", x.pinAt(0), 6);
        Check.refused(x, "risingAt(0) of none", x.risingAt(0), 6);
        int[][] pins = {{2, 3}, {0, 1}, {9998, 9999}, {1, 9999}, {1, 1}, {3, 5}, {5000, 9999}};
        int[] rank = {4, 0, 5, 1, 6, 3, 2};
        for (int[] p : pins) {
            x.pin(p[0], p[1], 1);
        }
        for (int i = 0; i < pins.length; i++) {
            Check.tells(x, "pinAt(" + i + ")", x.pinAt(i), pins[i][0], pins[i][1]);
            Check.tells(x, "risingAt(" + rank[i] + ")", x.risingAt(rank[i]), pins[i][0], pins[i][1]);
        }
        Check.refused(x, "pinAt(7)", x.pinAt(7), 6);
        Check.refused(x, "risingAt(7)", x.risingAt(7), 6);
        Check.refused(x, "pinAt(-1)", x.pinAt(-1), 1);
        Check.refused(x, "risingAt(-1)", x.risingAt(-1), 1);
        Check.refused(x, "pinAt(MAX)", x.pinAt(Integer.MAX_VALUE), 6);
        Check.refused(x, "risingAt(MIN)", x.risingAt(Integer.MIN_VALUE), 1);
    }

    private static void heaviestAndMiddle() {
        FareyRank x = new FareyRank();
        Check.refused(x, "heaviest() of none", x.heaviest(), 6);
        Check.refused(x, "middle() of none", x.middle(), 6);
        x.pin(3, 4, 5);
        Check.tells(x, "heaviest() of one", x.heaviest(), 3, 4);
        Check.tells(x, "middle() of one", x.middle(), 3, 4);
        x.pin(1, 4, 5);
        Check.tells(x, "heaviest(), of several the least", x.heaviest(), 1, 4);
        Check.tells(x, "middle() just half", x.middle(), 1, 4);
        x.pin(3, 4, 1);
        Check.tells(x, "heaviest()", x.heaviest(), 3, 4);
        Check.tells(x, "middle() above half", x.middle(), 3, 4);
        x.pin(1, 8, 1);
        Check.tells(x, "middle() of three", x.middle(), 1, 4);
        x.pin(1, 2, 6);
        Check.tells(x, "heaviest() of 6 and 6", x.heaviest(), 1, 2);
        Check.tells(x, "middle() of four", x.middle(), 1, 2);
    }

    private static void gap() {
        FareyRank x = new FareyRank();
        Check.tells(x, "gap() of none", x.gap(), 1, 1);
        x.pin(0, 1, 1);
        Check.tells(x, "gap() of 0", x.gap(), 1, 1);
        x.pin(1, 1, 1);
        Check.tells(x, "gap() of 0 and 1", x.gap(), 1, 1);
        x.pin(2, 3, 1);
        Check.tells(x, "gap() of 0, 2 by 3, 1", x.gap(), 2, 3);
        x.pin(1, 4, 1);
        Check.tells(x, "gap() between two", x.gap(), 5, 12);
        x.pin(4999, 9998, 1);
        Check.tells(x, "gap() behind the last", x.gap(), 1, 3);
        FareyRank y = new FareyRank();
        y.pin(1, 9999, 1);
        y.pin(9997, 9998, 1);
        Check.tells(y, "gap() of great bottoms", y.gap(), 99_950_005L, 99_970_002L);
    }

    private static void share() {
        FareyRank x = new FareyRank();
        Check.refused(x, "share(1, 2) of none", x.share(1, 2), 6);
        Check.refused(x, "share(2, 1) of none", x.share(2, 1), 1);
        x.pin(1, 3, 2);
        x.pin(2, 3, 4);
        Check.tells(x, "share(0, 1)", x.share(0, 1), 0, 1);
        Check.tells(x, "share(3333, 9999): it or less", x.share(3333, 9999), 1, 3);
        Check.tells(x, "share(3332, 9999)", x.share(3332, 9999), 0, 1);
        Check.tells(x, "share(1, 2)", x.share(1, 2), 1, 3);
        Check.tells(x, "share(1, 1)", x.share(1, 1), 1, 1);
    }

    private static void pinsOfRow() {
        FareyRank x = new FareyRank();
        Check.due(x, "pinsOfRow() of none", x.pinsOfRow(), 0, 0);
        x.pin(0, 9999, 1);
        x.pin(2000, 9995, 1);
        x.pin(2, 10, 1);
        x.pin(1, 6, 1);
        x.pin(9, 9, 1);
        Check.due(x, "pinsOfRow()", x.pinsOfRow(), 3, 0);
        x.rule(0, 6);
        Check.due(x, "pinsOfRow() of ORDER 6", x.pinsOfRow(), 4, 0);
        x.rule(0, 4);
        Check.due(x, "pinsOfRow() of ORDER 4", x.pinsOfRow(), 2, 0);
    }

    private static void copyPins() {
        FareyRank x = new FareyRank();
        Check.refused(x, "copyPins(4)", x.copyPins(4), 1);
        Check.refused(x, "copyPins(-1)", x.copyPins(-1), 1);
        Check.refused(x, "copyPins(0)", x.copyPins(0), 2);
        x.tray(0, 0, 0);
        Check.due(x, "copyPins(0) of none", x.copyPins(0), 0, 0);
        x.pin(400, 9998, 1);
        x.pin(2, 6, 5);
        Check.refused(x, "copyPins(0) of two", x.copyPins(0), 3);
        x.tray(1, 1, 3);
        x.write(1, 0, 9);
        Check.refused(x, "copyPins(1) to three", x.copyPins(1), 3);
        Check.due("read(1, 0) stays", x.read(1, 0), 9);
        x.tray(1, 1, 5);
        x.write(1, 4, 9);
        Check.due(x, "copyPins(1) to five", x.copyPins(1), 2, 0);
        int[] due = {200, 1, 4999, 3, 9};
        for (int i = 0; i < due.length; i++) {
            Check.due("read(1, " + i + ")", x.read(1, i), due[i]);
        }
        x.tray(2, 0, 4);
        x.copyPins(2);
        Check.due("read(2, 0), cut to its sort", x.read(2, 0), (byte) 200);
        Check.due("read(2, 2), cut to its sort", x.read(2, 2), (byte) 4999);
    }
}
