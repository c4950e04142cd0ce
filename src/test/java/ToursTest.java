/** Promises 56 to 58: TOURS lived, and the mean of them. */
public final class ToursTest {
    public static void main(String[] args) {
        steps();
        missed();
        tests();
        loops();
        limit();
        draws();
        numbers();
        mean();
        Check.end();
    }

    /** Lives the TOURS by the seed 0 and asks what is told of it: done, then lived(0) to (4). */
    private static void lives(FareyRank x, String text, String want) {
        Check.tours(x, text);
        StringBuilder got = new StringBuilder().append(x.live(0));
        for (int what = 0; what < 5; what++) {
            got.append(' ').append(x.lived(what));
        }
        Check.due(text, got.toString(), want);
    }

    private static void steps() {
        FareyRank x = new FareyRank();
        lives(x, "", "0 0 0 0 0 0");
        lives(x, "left;right;", "2 0 2 0 0 0");
        Check.tells(x, "here()", x.here(), 2, 5);
        lives(x, "flip;", "1 0 0 0 0 0");
        Check.tells(x, "here()", x.here(), 3, 5);
        lives(x, "up;", "1 0 1 0 0 0");
        Check.tells(x, "here()", x.here(), 2, 3);
        Check.due("told(5)", x.told(5), 5);
        lives(x, "pin 7;pin 8;left;pin 1;up;", "5 0 2 3 0 0");
        Check.due("weight(2, 3)", x.weight(2, 3), 15);
        Check.due("weight(3, 5)", x.weight(3, 5), 1);
        lives(x, "lift;order 9;", "2 0 0 0 1 0");
        Check.due("told(2)", x.told(2), 1);
        Check.due("told(0)", x.told(0), 9);
        lives(x, "stop;left;", "1 0 0 0 0 0");
        Check.due("told(6)", x.told(6), 1);
        lives(x, "left;loop 3;right;when depth=4;stop;end;end;up;", "7 0 3 0 0 0");
        Check.due("told(6)", x.told(6), 4);
    }

    private static void missed() {
        FareyRank x = new FareyRank();
        lives(x, "up;lift;order 5;", "3 3 0 0 0 0");
        lives(x, "order 6;order 6;order 5;", "3 1 0 0 0 0");
        x.jump(1, 9998);
        lives(x, "right;left;left;right;", "4 3 1 0 0 0");
        Check.tells(x, "here()", x.here(), 1, 9999);
        lives(x, "loop 11;pin 99;end;", "12 1 0 10 0 0");
        lives(x, "pin 9;pin 1;", "2 1 0 1 0 0");
        Check.due("weight(1, 9999)", x.weight(1, 9999), 999);
        for (int i = 1; i <= 11; i++) {
            x.pin(i, 13, 1);
        }
        lives(x, "up;pin 1;", "2 1 1 0 0 0");
        lives(x, "left;lift;up;pin 1;", "4 0 2 1 1 0");
        Check.due("weight(1, 9998)", x.weight(1, 9998), 1);
        x.jump(1, 2);
        x.rule(1, 16);
        lives(x, "any;any;", "2 2 0 0 0 0");
        x.jump(1, 9999);
        lives(x, "any;", "1 0 1 0 0 0");
        x.jump(1, 9999);
        x.rule(1, 0);
        lives(x, "any;", "1 1 0 0 0 0");
    }

    private static void tests() {
        FareyRank x = new FareyRank();
        x.jump(2, 5);
        x.pin(2, 5, 1);
        String[] hold = {"at 4 by 10", "at 2 by 5", "pinned", "depth<3", "depth>1", "depth=2",
            "bottom<6", "bottom>4", "bottom=5"};
        String[] not = {"at 1 by 2", "at 0 by 5", "at 1 by 5", "at 2 by 7", "at 5 by 5", "depth<2", "depth>2", "depth=1",
            "depth=3", "bottom<5", "bottom>5", "bottom=6", "bottom=4", "bottom=0", "depth>9999"};
        for (String test : hold) {
            lives(x, "when " + test + ";flip;flip;end;flip;flip;", "5 0 0 0 0 0");
        }
        for (String test : not) {
            lives(x, "when " + test + ";flip;flip;end;flip;flip;", "3 0 0 0 0 0");
        }
        x.lift(2, 5);
        lives(x, "when pinned;flip;flip;end;", "1 0 0 0 0 0");
        lives(x, "when depth=2;when bottom=5;end;when bottom=6;flip;end;end;", "3 0 0 0 0 0");
        lives(x, "when depth=3;when bottom=5;end;flip;end;up;", "2 0 1 0 0 0");
    }

    private static void loops() {
        FareyRank x = new FareyRank();
        lives(x, "loop 99;end;", "1 0 0 0 0 0");
        lives(x, "loop 99;loop 99;end;end;", "100 0 0 0 0 0");
        lives(x, "loop 2;loop 3;flip;end;flip;end;flip;", "12 0 0 0 0 0");
        lives(x, "loop 4;when depth<2;left;end;end;", "7 0 2 0 0 0");
        Check.tells(x, "here()", x.here(), 1, 4);
        lives(x, "loop 2;loop 2;loop 2;up;end;end;end;", "15 6 2 0 0 0");
        lives(x, "loop 1;flip;end;", "2 0 0 0 0 0");
        lives(x, "loop 9;stop;end;", "2 0 0 0 0 0");
        lives(x, "when depth<9;flip;end;flip;", "3 0 0 0 0 0");
    }

    private static void limit() {
        FareyRank x = new FareyRank();
        lives(x, "loop 99;flip;flip;end;".concat("flip;".repeat(3)), "202 0 0 0 0 0");
        lives(x, "loop 99;flip;flip;flip;end;flip;flip;", "300 0 0 0 0 0");
        lives(x, "loop 99;flip;flip;flip;end;flip;flip;flip;", "300 0 0 0 0 1");
        lives(x, "loop 99;flip;flip;flip;end;flip;flip;stop;", "300 0 0 0 0 1");
        lives(x, "loop 99;flip;flip;flip;end;flip;stop;flip;", "300 0 0 0 0 0");
        lives(x, "loop 99;flip;flip;flip;end;flip;loop 9;end;", "300 0 0 0 0 0");
        lives(x, "loop 99;flip;flip;flip;end;flip;loop 9;flip;end;", "300 0 0 0 0 1");
        lives(x, "loop 99;flip;flip;flip;end;flip;when depth=9;flip;end;", "300 0 0 0 0 0");
        lives(x, "loop 99;loop 99;loop 99;end;end;end;", "300 0 0 0 0 1");
        lives(x, "loop 99;left;left;left;up;end;", "300 0 299 0 0 1");
        Check.due("told(5) of 151 deep and its top", x.told(5), 152);
        lives(x, "loop 99;left;left;end;", "199 0 198 0 0 0");
        Check.due("told(5) of 200 at most", x.told(5), 200);
        Check.due("told(6)", x.told(6), 349);
        Check.due("wasAt the 200th", x.wasAt(1, 201), 1);
        Check.due("wasAt a 201st", x.wasAt(1, 202), 0);
    }

    /** The draws by the document's words: s, at first the seed. */
    private static void draws() {
        for (int seed = 0; seed < 10_000; seed += 401) {
            FareyRank x = new FareyRank();
            x.rule(1, 7);
            Check.tours(x, "any;any;any;any;any;any;any;any;any;any;");
            long s = seed;
            Model.Frac at = new Model.Frac(1, 2);
            int missed = 0;
            for (int i = 0; i < 10; i++) {
                s = (s * 3301 + 11_533) % 65_536;
                int turn = (int) (s / 8 % 2);
                s = (s * 3301 + 11_533) % 65_536;
                boolean rises = s / 8 % 16 < 7;
                if (rises && at.bottom() == 2) {
                    missed++;
                } else {
                    at = rises ? Model.parentOf(at) : Model.child(at, turn);
                }
            }
            Check.due("live(" + seed + ")", x.live(seed), 10);
            Check.due("lived(0)", x.lived(0), missed);
            Check.due("lived(1)", x.lived(1), 10 - missed);
            Check.tells(x, "here() behind live(" + seed + ")", x.here(), at.top(), at.bottom());
        }
    }

    private static void numbers() {
        FareyRank x = new FareyRank();
        Check.refused(x, "live(-1) without TOURS", x.live(-1), 1);
        Check.refused(x, "live(0) without TOURS", x.live(0), 6);
        Check.refused(x, "lived(5) ahead of any", x.lived(5), 1);
        Check.refused(x, "lived(-1) ahead of any", x.lived(-1), 1);
        Check.refused(x, "lived(4) ahead of any", x.lived(4), 6);
        Check.tours(x, "left;up;up;");
        Check.refused(x, "lived(0) of TOURS not lived", x.lived(0), 6);
        Check.due(x, "live(9999)", x.live(9999), 3, 0);
        Check.refused(x, "live(10000)", x.live(10_000), 1);
        Check.due(x, "lived(0) of the latest with STATUS 0", x.lived(0), 1, 0);
        Check.due(x, "lived(1) of the latest with STATUS 0", x.lived(1), 2, 0);
        x.mean(0, 20);
        Check.due(x, "lived(1) behind mean()", x.lived(1), 2, 0);
        Check.study(x, "");
        Check.refused(x, "live(0) behind study()", x.live(0), 6);
        Check.due(x, "lived(1) behind study()", x.lived(1), 2, 0);
    }

    private static void mean() {
        FareyRank x = new FareyRank();
        Check.refused(x, "mean(0, 1) without TOURS", x.mean(0, 1), 6);
        Check.refused(x, "mean(0, 0) without TOURS", x.mean(0, 0), 1);
        Check.study(x, "odds 3; order 9; here 2 by 5; pin 2 by 5;");
        String text = "loop 5; any; end; when pinned; left; left; lift; order 3; end; pin 4; any;";
        Check.tours(x, text);
        long sum = 0;
        for (int seed = 0; seed < 20; seed++) {
            FareyRank y = new FareyRank();
            Check.study(y, "odds 3; order 9; here 2 by 5; pin 2 by 5;");
            Check.tours(y, text);
            y.live(seed);
            sum += y.told(6);
            Model.Frac due = Model.Frac.of(sum, seed + 1);
            Check.tells(x, "mean(0, " + (seed + 1) + ")", x.mean(0, seed + 1), due.top(),
                due.bottom());
        }
        int[] same = {9, 3, 1, 1, 29, 1, 2};
        for (int what = 0; what < same.length; what++) {
            Check.due("told(" + what + ") behind mean()", x.told(what), same[what]);
        }
        Check.due("weight(2, 5) behind mean()", x.weight(2, 5), 1);
        Check.refused(x, "mean(-1, 1)", x.mean(-1, 1), 1);
        Check.refused(x, "mean(0, 0)", x.mean(0, 0), 1);
        Check.refused(x, "mean(0, 21)", x.mean(0, 21), 1);
        Check.refused(x, "mean(9999, 2)", x.mean(9999, 2), 1);
        Check.refused(x, "mean(MAX, 20)", x.mean(Integer.MAX_VALUE, 20), 1);
        Check.refused(x, "mean(10000, 1)", x.mean(10_000, 1), 1);
        Check.due("mean(9999, 1)", x.mean(9999, 1), true);
        Check.due("mean(9980, 20)", x.mean(9980, 20), true);
        Check.tours(x, "up;up;");
        Check.tells(x, "mean of none", x.mean(3, 7), 0, 1);
    }
}
