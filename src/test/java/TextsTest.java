/** Promises 9 to 13: the tape, STUDY, TOURS, FAULTS, what is told. */
public final class TextsTest {
    public static void main(String[] args) {
        feed();
        studies();
        studyFaults();
        tourTexts();
        tourFaults();
        numbersOfCalls();
        told();
        Check.end();
    }

    private static void feed() {
        FareyRank x = new FareyRank();
        for (int i = 1; i <= 45; i++) {
            Check.due("feed " + i, x.feed(0, 0, 0, 0, 0), 20 * i);
        }
        Check.due("feed of more than 900", x.feed(0, 0, 0, 0, 0), -1);
        Check.refused(x, "study(901)", x.study(901), 1);
        Check.due("feed on the tape as it was", x.feed(0, 0, 0, 0, 0), -1);
        Check.refused(x, "study(900) of zeros", x.study(900), 9);
        Check.due("feed on an empty tape", x.feed(0, 0, 0, 0, 0), 20);
        x.study(0);
        // "orde" "r 7;" "    " "\n   " "    ": the highest byte of each int first
        x.feed(0x6F726465, 0x7220373B, 0x20202020, 0x0A202020, 0x20202020);
        Check.due("study(20) of the bytes fed", x.study(20), 0);
        Check.due("told(0) by the bytes fed", x.told(0), 7);
        x.feed(-1, 0, 0, 0, 0);
        Check.refused(x, "study(1) of a byte 255", x.study(1), 9);
        Check.due("fault(0) of a byte 255", x.fault(0), 1);
        String full = "odds 3 ;".concat(" ".repeat(892));
        Check.due("study of 900 bytes", Check.study(x, full), 0);
        Check.due("told(1) of 900 bytes", x.told(1), 3);
    }

    private static void studies() {
        FareyRank x = new FareyRank();
        Check.due("study", Check.study(x,
            "pin 2 by 4 weight 9;order 200; odds 0;\nhere 6 by 9 ;pin 0 by 7;pin 1by1weight99;"), 3);
        Check.due("fault(0) without one", x.fault(0), 0);
        Check.due("fault(1) without one", x.fault(1), -1);
        int[] due = {200, 0, 3, 109, 12_233, 1, 1};
        for (int what = 0; what < due.length; what++) {
            Check.due("told(" + what + ")", x.told(what), due[what]);
        }
        Check.tells(x, "here()", x.here(), 2, 3);
        Check.due("wasAt(2, 3)", x.wasAt(2, 3), 1);
        Check.due("wasAt(1, 2)", x.wasAt(1, 2), 0);
        Check.tells(x, "pinAt(0)", x.pinAt(0), 1, 2);
        Check.tells(x, "pinAt(1)", x.pinAt(1), 0, 1);
        Check.tells(x, "pinAt(2)", x.pinAt(2), 1, 1);
        Check.due("weight(0, 1) without a WEIGHT", x.weight(0, 1), 1);
        Check.due("weight(1, 1)", x.weight(1, 1), 99);
        Check.tours(x, "left;");
        x.go(0);
        x.mark();
        Check.refused(x, "study with a FAULT", Check.study(x, "order 3; pin"), 9);
        Check.due("told(0): the old one stays", x.told(0), 200);
        Check.due("told(5): the old one stays", x.told(5), 2);
        Check.due("live(0): the TOURS stay", x.live(0), 1);
        Check.due("study of blanks", Check.study(x, " \n "), 0);
        int[] without = {5, 4, 0, 0, 11, 1, 0};
        for (int what = 0; what < without.length; what++) {
            Check.due("told(" + what + ") of no PART", x.told(what), without[what]);
        }
        Check.refused(x, "live(0): no TOURS behind a STUDY", x.live(0), 6);
        Check.due("wasAt(2, 3) behind a STUDY", x.wasAt(2, 3), 0);
        Check.due("undo(): MARKS stay behind a STUDY", x.undo(), 0);
        Check.due("told(0) behind undo()", x.told(0), 200);
    }

    private static void studyFault(String text, int kind, int place) {
        FareyRank x = new FareyRank();
        Check.refused(x, "study: " + text, Check.study(x, text), 9);
        Check.due("fault(0) of " + text, x.fault(0), kind);
        Check.due("fault(1) of " + text, x.fault(1), place);
        Check.due("fault(2)", x.fault(2), -1);
        Check.due("fault(-1)", x.fault(-1), -1);
    }

    private static void studyFaults() {
        studyFault("odds 4; #", 1, 8);
        studyFault("x", 2, 0);
        studyFault("Odds 4;", 1, 0);
        studyFault("odds\t4;", 1, 4);
        studyFault("odds 12345;", 1, 5);
        studyFault("odds 00004;", 1, 5);
        studyFault("12345", 1, 0);
        studyFault("odds 17;", 4, 5);
        studyFault("order 0;", 4, 6);
        studyFault("order 201;", 4, 6);
        studyFault("order -1;", 1, 6);
        studyFault("odds ;", 2, 5);
        studyFault("odds odds;", 2, 5);
        studyFault("odds 4", 2, 6);
        studyFault("odds 4 \n ", 2, 9);
        studyFault("odds", 2, 4);
        studyFault("4;", 2, 0);
        studyFault(";", 2, 0);
        studyFault("odds 4;;", 2, 7);
        studyFault("oddss 4;", 2, 0);
        studyFault("adds 4;", 2, 0);
        studyFault("ordes 4;", 2, 0);
        studyFault("odd s 4;", 2, 0);
        studyFault("zaz", 2, 0);
        studyFault("zaz".concat("`"), 2, 0);
        studyFault("odds {", 1, 5);
        studyFault("odds `", 1, 5);
        studyFault("odds /", 1, 5);
        studyFault("odds :", 1, 5);
        studyFault("odds ?", 1, 5);
        studyFault("odds 4z;", 2, 6);
        studyFault("pin ;", 2, 4);
        studyFault("here;", 2, 4);
        studyFault("pin 1 by;", 2, 8);
        studyFault("pin 1;", 2, 5);
        studyFault("left;", 2, 0);
        studyFault("weight 4;", 2, 0);
        studyFault("odds 4 < 5;", 2, 7);
        studyFault("odds 4; order 4; odds 17;", 5, 17);
        studyFault("order 4; order 4;", 5, 9);
        studyFault("here 1 by 3; here 1 by 3;", 5, 13);
        studyFault("here 0 by 3;", 4, 10);
        studyFault("here 3 by 3;", 4, 10);
        studyFault("here 4 by 3;", 4, 10);
        studyFault("here 1 by 0;", 4, 10);
        studyFault("here 0 by 0;", 4, 10);
        studyFault("here 1 3;", 2, 7);
        studyFault("here 1 by by 3;", 2, 10);
        studyFault("pin 4 by 3 weight 0;", 4, 9);
        studyFault("pin 0 by 0;", 4, 9);
        studyFault("pin 1 by 2 weight 0;", 4, 18);
        studyFault("pin 1 by 2 weight 100;", 4, 18);
        studyFault("pin 1 by 2 weight;", 2, 17);
        studyFault("pin 1 by 2; pin 1 by 3; pin 2 by 4 weight 0;", 5, 33);
        studyFault("pin 1 by 2 by 3;", 2, 11);
        StringBuilder twelve = new StringBuilder();
        for (int i = 1; i <= 12; i++) {
            twelve.append("pin ").append(i).append(" by 13;");
        }
        FareyRank x = new FareyRank();
        Check.due("study of 12 pins", Check.study(x, twelve.toString()), 12);
        studyFault(twelve + "pin 1 by 13;", 6, twelve.length());
        studyFault(twelve + "pi", 2, twelve.length());
        Check.study(x, "odds 9;x");
        Check.due("fault(0) ahead of another", x.fault(0), 2);
        x.study(-1);
        Check.due("fault(0) behind a STATUS 1", x.fault(0), 2);
        Check.study(x, "odds 9;");
        Check.due("fault(0) behind a STUDY taken", x.fault(0), 0);
        Check.study(x, "here 9999 by 9998;");
        Check.due("fault(0)", x.fault(0), 4);
        Check.study(x, "here 9998 by 9999;");
        Check.due("told(6) of 9998 by 9999", x.told(6), 9997);
    }

    private static void tourTexts() {
        FareyRank x = new FareyRank();
        Check.due("tours of all STEPS", Check.tours(x, "left;right;up;flip;pin 9;lift;order 9;any;"
            + "when at 2 by 4;end;when pinned;end;when depth<0;end;when bottom > 9999;end;"
            + "when depth = 3;loop 99; loop 1; up; end;end ; end;stop;"), 17);
        Check.due("tours of none", Check.tours(x, ""), 0);
        Check.due("tours of 30 STEPS", Check.tours(x, "up;".repeat(30)), 30);
        Check.due("tours of 30 STEPS and ends",
            Check.tours(x, "loop 1;end;".repeat(27) + "up;".repeat(1)), 28);
        Check.due("tours of three within one another",
            Check.tours(x, "loop 1;when pinned;loop 2;up;end;end;when pinned;end;end;"), 5);
        Check.due("tours of 300 bytes", Check.tours(x, "up;" + " ".repeat(297)), 1);
        Check.due("live(0) of them", x.live(0), 1);
        Check.refused(x, "tours with a FAULT", Check.tours(x, "left;left"), 9);
        Check.due("fault(0) of them", x.fault(0), 2);
        Check.due("live(0): the old ones stay", x.live(0), 1);
        Check.due("live(0): the old ones stay, up is MISSED", x.lived(0), 1);
        Check.due("told(0) stays with TOURS", x.told(0), 5);
    }

    private static void tourFault(String text, int kind, int place) {
        FareyRank x = new FareyRank();
        Check.refused(x, "tours: " + text, Check.tours(x, text), 9);
        Check.due("fault(0) of " + text, x.fault(0), kind);
        Check.due("fault(1) of " + text, x.fault(1), place);
    }

    private static void tourFaults() {
        tourFault("left;!", 1, 5);
        tourFault("x", 2, 0);
        tourFault("!", 1, 0);
        tourFault("pin 10000;", 1, 4);
        tourFault("odds 4;", 2, 0);
        tourFault("left right;", 2, 5);
        tourFault("left 1;", 2, 5);
        tourFault("pin;", 2, 3);
        tourFault("pin 0;", 4, 4);
        tourFault("pin 100;", 4, 4);
        tourFault("order 0;", 4, 6);
        tourFault("order 201;", 4, 6);
        tourFault("loop 0;end;", 4, 5);
        tourFault("loop 100;end;", 4, 5);
        tourFault("when at 1 by 0;end;", 4, 13);
        tourFault("when at 3 by 2;end;", 4, 13);
        tourFault("when at 3;end;", 2, 9);
        tourFault("when at;end;", 2, 7);
        tourFault("when at 3 by;end;", 2, 12);
        tourFault("when;", 2, 4);
        tourFault("when left;", 2, 5);
        tourFault("when pinned end;", 2, 12);
        tourFault("when depth 4;end;", 2, 11);
        tourFault("when depth ;end;", 2, 11);
        tourFault("when bottom < > 4;", 2, 14);
        tourFault("when bottom <;", 2, 13);
        tourFault("end;", 2, 0);
        tourFault("loop 2;up;end;end;", 2, 14);
        tourFault("loop 2;up;", 2, 10);
        tourFault("loop 2;up;  ", 2, 12);
        tourFault("loop 2;up;end", 2, 13);
        tourFault("loop 2;up;end up;", 2, 14);
        tourFault("up;".repeat(30) + "up;", 6, 90);
        tourFault("up;".repeat(30) + "x", 2, 90);
        tourFault("loop 1;".repeat(3) + "when pinned;", 7, 21);
        tourFault("loop 1;".repeat(3) + "end;loop 1;loop 1;", 7, 32);
        tourFault("up;".repeat(27) + "loop 1;".repeat(4), 6, 102);
        FareyRank x = new FareyRank();
        Check.due("when at 0 by 1", Check.tours(x, "when at 0 by 1;end;when at 9 by 9;end;"), 2);
        Check.due("when bottom = 0", Check.tours(x, "when bottom=0;end;when depth=9999;end;"), 2);
    }

    private static void numbersOfCalls() {
        FareyRank x = new FareyRank();
        Check.feed(x, "up;".repeat(30) + " ".repeat(230));
        Check.refused(x, "tours(301)", x.tours(301), 1);
        Check.refused(x, "tours(-1)", x.tours(-1), 1);
        Check.refused(x, "study(-1)", x.study(-1), 1);
        Check.refused(x, "study(321)", x.study(321), 1);
        Check.due("fault(0) ahead of any", x.fault(0), -1);
        Check.due("tours(300) of the tape as it was", x.tours(300), 30);
        Check.refused(x, "tours(1) of an empty tape", x.tours(1), 1);
        Check.feed(x, "up;left;right;");
        Check.due("tours(8) of more", x.tours(8), 2);
        Check.refused(x, "tours(1): the rest is gone", x.tours(1), 1);
        Check.feed(x, "odds 3;x");
        Check.due("study(7) of more", x.study(7), 0);
        Check.refused(x, "study(1): the rest is gone", x.study(1), 1);
    }

    private static void told() {
        FareyRank x = new FareyRank();
        Check.refused(x, "told(7)", x.told(7), 1);
        Check.refused(x, "told(-1)", x.told(-1), 1);
        x.rule(0, 6);
        x.rule(1, 15);
        x.pin(1, 3, 4);
        x.pin(1, 4, 5);
        x.go(1);
        x.go(1);
        int[] due = {6, 15, 2, 9, 13, 3, 2};
        for (int what = 0; what < due.length; what++) {
            Check.due(x, "told(" + what + ")", x.told(what), due[what], 0);
        }
    }
}
