/** Promises 59 and 60: MARKS, and all taken back to them. */
public final class MarksTest {
    public static void main(String[] args) {
        allIsTakenBack();
        nothingElseIs();
        many();
        Check.end();
    }

    private static String all(FareyRank x) {
        StringBuilder text = new StringBuilder();
        for (int what = 0; what < 7; what++) {
            text.append(x.told(what)).append(' ');
        }
        x.here();
        text.append(x.top()).append('/').append(x.bottom()).append(';');
        for (int k = 0; x.pinAt(k); k++) {
            int top = (int) x.top();
            int bottom = (int) x.bottom();
            text.append(top).append('/').append(bottom).append('*').append(x.weight(top, bottom));
            text.append(' ');
        }
        for (int bottom = 2; bottom < 8; bottom++) {
            for (int top = 1; top < bottom; top++) {
                text.append(x.wasAt(top, bottom));
            }
        }
        text.append(x.mean(5, 9) ? x.top() + "/" + x.bottom() : " no TOURS");
        return text.toString();
    }

    private static void allIsTakenBack() {
        FareyRank x = new FareyRank();
        String first = all(x);
        x.mark();
        Check.due("all behind mark()", all(x), first);
        Check.study(x, "order 8; odds 9; here 3 by 7; pin 1 by 3 weight 4; pin 1 by 7;");
        Check.tours(x, "any;any;left;pin 3;order 4;");
        x.go(0);
        String second = all(x);
        x.mark();
        x.live(77);
        x.pin(1, 7, 5);
        x.pin(1, 9, 5);
        x.lift(1, 3);
        x.rule(0, 100);
        x.rule(1, 16);
        x.jump(1, 2);
        x.flip();
        Check.tours(x, "up;");
        String third = all(x);
        x.mark();
        Check.study(x, "");
        Check.due(x, "undo()", x.undo(), 2, 0);
        Check.due("all as at the third MARK", all(x), third);
        x.lift(1, 7);
        Check.due(x, "undo()", x.undo(), 1, 0);
        Check.due("all as at the second MARK", all(x), second);
        x.go(1);
        Check.due(x, "mark() again", x.mark(), 2, 0);
        String fourth = all(x);
        x.up();
        x.undo();
        Check.due("all as at the MARK put again", all(x), fourth);
        Check.due(x, "undo()", x.undo(), 0, 0);
        Check.due("all as at first", all(x), first);
        Check.refused(x, "live(0): no TOURS again", x.live(0), 6);
    }

    private static void nothingElseIs() {
        FareyRank x = new FareyRank();
        x.tray(0, 0, 2);
        x.mark();
        x.write(0, 1, 5);
        x.tray(1, 1, 1);
        Check.tours(x, "left;left;");
        x.live(0);
        Check.study(x, "odds");
        Check.feed(x, "odds 3;");
        x.fraction(3);
        x.undo();
        Check.due("top() behind undo()", x.top(), 1);
        Check.due("bottom() behind undo()", x.bottom(), 3);
        Check.due("read(0, 1) behind undo()", x.read(0, 1), 5);
        Check.due(x, "read(1, 0) behind undo()", x.read(1, 0), 0, 0);
        Check.due("lived(1) behind undo()", x.lived(1), 2);
        Check.due("fault(0) behind undo()", x.fault(0), 2);
        Check.due("fault(1) behind undo()", x.fault(1), 4);
        Check.due("study(7) behind undo()", x.study(7), 0);
        Check.due("told(1)", x.told(1), 3);
    }

    private static void many() {
        FareyRank x = new FareyRank();
        Check.refused(x, "undo() without any", x.undo(), 6);
        for (int i = 1; i <= 3; i++) {
            Check.due(x, "mark()", x.mark(), i, 0);
        }
        x.go(0);
        Check.refused(x, "a 4th mark()", x.mark(), 4);
        Check.due("told(6) behind a 4th", x.told(6), 1);
        for (int i = 2; i >= 0; i--) {
            Check.due(x, "undo()", x.undo(), i, 0);
            Check.due("told(6) behind undo()", x.told(6), 0);
        }
        x.go(1);
        Check.refused(x, "undo() of one more", x.undo(), 6);
        Check.due("told(6) stays", x.told(6), 1);
    }
}
