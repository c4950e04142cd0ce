import java.util.ArrayList;
import java.util.List;

/** Promises 56 to 58: TOURS lived, draws, the mean. */
final class EdgesOfTours extends Edges {
    static void all() {
        steps();
        tests();
        missed();
        any();
        loops();
        limit();
        draws();
        live();
        lived();
        mean();
    }

    /** TOURS lived by the seed 0: the STEPS done, then what lived(0) to lived(4) tell. */
    private static void lives(String text, int done, int... told) {
        livesThen(text, done, told);
    }

    /** .. and then these lines. */
    private static void livesThen(String text, int done, int[] told, String... then) {
        List<String> lines = new ArrayList<>();
        lines.add("tours{" + text + "}");
        lines.add("live(0) = " + done);
        for (int what = 0; what < told.length; what++) {
            lines.add("lived(" + what + ") = " + told[what]);
        }
        lines.addAll(List.of(then));
        run(lines.toArray(new String[0]));
    }

    private static int[] told(int... five) {
        return five;
    }

    private static void steps() {
        says("pin: where the WALKER is, by a WEIGHT (1 to 99); lift: what is pinned there is not any "
            + "more;");
        from("jump(2, 5)", "pin(1, 2, 3)");
        for (int weight : new int[] {1, 99}) {
            livesThen("pin " + weight + ";", 1, told(0, 0, 1, 0, 0), "weight(2, 5) = " + weight,
                "weight(1, 2) = 3", "pinAt(1) = 2/5");
        }
        livesThen("pin 5;lift;", 2, told(0, 0, 1, 1, 0), "weight(2, 5) ! 6", "told(2) = 1");
        livesThen("pin 5;pin 6;", 2, told(0, 0, 2, 0, 0), "weight(2, 5) = 11");
        livesThen("left;right;up;flip;", 4, told(0, 3, 0, 0, 0), "here() = 5/8", "told(5) = 5");
        livesThen("order 1;", 1, told(0, 0, 0, 0, 0), "told(0) = 1", "told(4) = 2");
        livesThen("order 200;", 1, told(0, 0, 0, 0, 0), "told(0) = 200");
        livesThen("stop;left;", 1, told(0, 0, 0, 0, 0), "here() = 2/5");
        livesThen("loop 3;left;stop;right;end;up;", 3, told(0, 1, 0, 0, 0), "here() = 3/8");
        livesThen("", 0, told(0, 0, 0, 0, 0), "here() = 2/5");
    }

    private static void tests() {
        says("at: it is alike a VALUE (bottom as above); pinned: it is; depth, bottom: its own "
            + "against 0 to 9,999;");
        from("jump(2, 5)", "pin(2, 5, 1)");
        for (String test : new String[] {"at 2 by 5", "at 3998 by 9995", "pinned", "depth<3", "depth>1",
            "depth=2", "depth>0", "depth<9999", "bottom<6", "bottom>4", "bottom=5", "bottom>0",
            "bottom<9999"}) {
            livesThen("when " + test + ";flip;end;", 2, told(0, 0, 0, 0, 0), "here() = 3/5");
        }
        for (String test : new String[] {"at 3 by 5", "at 0 by 5", "at 0 by 1", "at 5 by 5",
            "at 1 by 1", "at 3999 by 9995", "depth<2", "depth>2", "depth=1", "depth=3", "depth<0",
            "depth=0", "depth=9999", "depth>9999", "bottom<5", "bottom>5", "bottom=4", "bottom=6",
            "bottom<0", "bottom=0", "bottom=9999", "bottom>9999"}) {
            livesThen("when " + test + ";flip;end;", 1, told(0, 0, 0, 0, 0), "here() = 2/5");
        }
        from("pin(1, 3, 1)");
        lives("when pinned;flip;end;", 1);
        lives("when depth=0;flip;end;", 2);
        lives("when depth>0;flip;end;", 1);
        lives("when depth<0;flip;end;", 1);
        lives("when bottom=2;flip;end;", 2);
        from("jump(1, 9999)");
        lives("when bottom=9999;flip;end;", 2);
        lives("when bottom>9999;flip;end;", 1);
        lives("when bottom<9999;flip;end;", 1);
        lives("when bottom>9998;flip;end;", 2);
        lives("when depth=9997;flip;end;", 2);
        lives("when depth>9997;flip;end;", 1);
        lives("when depth<9997;flip;end;", 1);
        lives("when at 1 by 9999;flip;end;", 2);
    }

    private static void missed() {
        says("What can't be is MISSED: a left, right by which the bottom would be above 9,999 (by "
            + "any, too), an up from 1 by 2 (by any, too), a pin of a 13th, by which a WEIGHT would "
            + "be above 999, a lift of what is not pinned, an order as it is.");
        from("jump(1, 9998)");
        livesThen("left;left;right;", 3, told(2, 1, 0, 0, 0), "here() = 1/9999", "told(5) = 3");
        livesThen("right;", 1, told(1, 0, 0, 0, 0), "here() = 1/9998", "told(5) = 2");
        from("jump(9997, 9998)");
        livesThen("right;right;left;", 3, told(2, 1, 0, 0, 0), "here() = 9998/9999");
        from("jump(1, 9999)", "rule(1, 0)");
        livesThen("any;any;any;", 3, told(3, 0, 0, 0, 0), "here() = 1/9999", "told(5) = 2");
        from("jump(1, 9999)", "rule(1, 16)");
        livesThen("any;", 1, told(0, 1, 0, 0, 0), "here() = 1/9998");
        from();
        livesThen("up;", 1, told(1, 0, 0, 0, 0), "here() = 1/2", "told(5) = 1");
        livesThen("left;up;up;", 3, told(1, 2, 0, 0, 0), "here() = 1/2");
        livesThen("lift;", 1, told(1, 0, 0, 0, 0), "told(2) = 0");
        livesThen("pin 1;lift;lift;", 3, told(1, 0, 1, 1, 0), "told(2) = 0");
        livesThen("order 5;", 1, told(1, 0, 0, 0, 0), "told(0) = 5");
        livesThen("order 4;order 4;order 5;", 3, told(1, 0, 0, 0, 0), "told(0) = 5");
        lives("flip;stop;", 2, 0, 0, 0, 0, 0);
        lives("when pinned;end;loop 1;end;", 2, 0, 0, 0, 0, 0);
        from("rule(1, 16)");
        livesThen("any;any;", 2, told(2, 0, 0, 0, 0), "here() = 1/2");
        livesThen("left;any;any;", 3, told(1, 2, 0, 0, 0), "here() = 1/2");
        livesThen("loop 11;pin 90;end;", 12, told(0, 0, 11, 0, 0), "weight(1, 2) = 990");
        livesThen("loop 11;pin 90;end;pin 10;pin 9;pin 1;", 15, told(2, 0, 12, 0, 0),
            "weight(1, 2) = 999");
        livesThen("loop 12;pin 1;left;end;", 25, told(0, 12, 12, 0, 0), "told(2) = 12");
        livesThen("loop 12;pin 1;left;end;pin 1;up;pin 1;", 28, told(1, 13, 13, 0, 0),
            "told(2) = 12", "weight(1, 14) ! 6", "weight(1, 13) = 2");
        livesThen("loop 12;pin 1;left;end;pin 1;up;lift;left;pin 1;", 30, told(1, 14, 13, 1, 0),
            "told(2) = 12", "weight(1, 14) = 1", "weight(1, 13) ! 6", "pinAt(11) = 1/14");
    }

    /** What the document says of draws, on its own. */
    private static int[] drawsOf(int seed, int many, int... by) {
        int[] drawn = new int[many];
        long s = seed;
        for (int i = 0; i < many; i++) {
            s = (s * 3301 + 11533) % 65536;
            drawn[i] = (int) (s / 8 % by[i % by.length]);
        }
        return drawn;
    }

    private static void any() {
        says("any: a turn by a draw by 2, a draw by 16 (both first): if that is below ODDS, it goes "
            + "UP, else to that child.");
        for (int seed : new int[] {0, 1, 2, 3, 4, 5, 6, 7, 8, 9, 10, 100, 1000, 5000, 9998, 9999}) {
            int[] drawn = drawsOf(seed, 2, 2, 16);
            String child = drawn[0] == 0 ? "3/8" : "3/7";
            from("study{here 2 by 5; odds " + drawn[1] + ";}", "tours{any;}");
            run("live(" + seed + ") = 1", "here() = " + child, "lived(1) = 1");
            from("study{here 2 by 5; odds " + (drawn[1] + 1) + ";}", "tours{any;}");
            run("live(" + seed + ") = 1", "here() = 1/3", "lived(1) = 1");
        }
        from("jump(2, 5)", "rule(1, 0)", "tours{any;}");
        range("live(#)", 0, 9999);
        run("live(0) = 1", "told(6) = 3");
        from("jump(2, 5)", "rule(1, 16)", "tours{any;}");
        run("live(9999) = 1", "here() = 1/3");
    }

    private static void loops() {
        says("loop n (1 to 99): as often.");
        from();
        livesThen("loop 1;left;end;", 2, told(0, 1, 0, 0, 0), "told(6) = 1");
        livesThen("loop 2;left;end;", 3, told(0, 2, 0, 0, 0), "told(6) = 2");
        livesThen("loop 98;left;end;", 99, told(0, 98, 0, 0, 0), "told(6) = 98");
        livesThen("loop 99;left;end;", 100, told(0, 99, 0, 0, 0), "told(6) = 99");
        lives("loop 99;end;", 1, 0, 0, 0, 0, 0);
        livesThen("loop 2;loop 3;left;end;end;", 9, told(0, 6, 0, 0, 0), "told(6) = 6");
        livesThen("loop 3;loop 2;left;end;right;end;", 13, told(0, 9, 0, 0, 0), "told(6) = 9");
        livesThen("loop 2;loop 2;loop 2;left;end;end;end;", 15, told(0, 8, 0, 0, 0), "told(6) = 8");
        livesThen("loop 9;left;when depth=3;stop;end;end;", 8, told(0, 3, 0, 0, 0), "told(6) = 3");
        // a when, a loop is not gone through more often for a loop that was left there ahead
        from("tours{loop 9;stop;end;}", "live(0)");
        livesThen("when depth=0;left;end;", 2, told(0, 1, 0, 0, 0), "told(6) = 1");
        livesThen("loop 2;left;end;", 3, told(0, 2, 0, 0, 0), "told(6) = 2");
        run("live(0) = 2", "live(0) = 2");
    }

    private static void limit() {
        says("At most 300 STEPS (when, loop count as one each time they are come to from ahead; end "
            + "does not).", "4: 1 if a STEP was come to when 300 had been done, else 0");
        from("jump(1, 3)");
        String most = "loop 99;flip;flip;flip;end;";
        lives(most, 298, 0, 0, 0, 0, 0);
        lives(most + "flip;", 299, 0, 0, 0, 0, 0);
        lives(most + "flip;flip;", 300, 0, 0, 0, 0, 0);
        livesThen(most + "flip;flip;pin 1;", 300, told(0, 0, 0, 0, 1), "told(2) = 0");
        livesThen(most + "flip;pin 1;", 300, told(0, 0, 1, 0, 0), "told(2) = 1");
        livesThen(most + "flip;flip;lift;left;up;", 300, told(0, 0, 0, 0, 1), "told(6) = 1");
        // the STEP come to when 300 have been done may be any
        for (String step : new String[] {"left;", "right;", "up;", "flip;", "pin 1;", "lift;",
            "order 9;", "any;", "stop;", "when pinned;end;", "loop 1;end;"}) {
            lives(most + "flip;flip;" + step, 300, 0, 0, 0, 0, 1);
            lives(most + "flip;flip;stop;" + step, 300, 0, 0, 0, 0, 1);
        }
        // the 300th itself is a stop, a when, a loop
        lives(most + "flip;stop;flip;", 300, 0, 0, 0, 0, 0);
        lives(most + "flip;when depth=0;flip;end;", 300, 0, 0, 0, 0, 0);
        lives(most + "flip;when depth=1;flip;end;", 300, 0, 0, 0, 0, 1);
        lives(most + "flip;when depth=1;end;", 300, 0, 0, 0, 0, 0);
        lives(most + "flip;when depth=0;flip;end;flip;", 300, 0, 0, 0, 0, 1);
        lives(most + "flip;loop 99;end;", 300, 0, 0, 0, 0, 0);
        lives(most + "flip;loop 1;flip;end;", 300, 0, 0, 0, 0, 1);
        // the 300th is the last within a loop: its end is no STEP
        lives("flip;loop 99;flip;flip;flip;end;stop;", 300, 0, 0, 0, 0, 0);
        lives("flip;loop 1;" + most + "end;", 300, 0, 0, 0, 0, 0);
        lives("loop 2;loop 1;" + most + "end;end;", 300, 0, 0, 0, 0, 1);
        lives("loop 99;loop 99;loop 99;end;end;end;", 300, 0, 0, 0, 0, 1);
        lives("loop 99;loop 3;end;end;", 100, 0, 0, 0, 0, 0);
        lives("loop 99;when depth=1;flip;end;end;", 199, 0, 0, 0, 0, 0);
        lives("loop 99;when depth=0;flip;end;end;", 100, 0, 0, 0, 0, 0);
        lives("loop 99;when depth=1;when depth=1;flip;end;end;end;", 298, 0, 0, 0, 0, 0);
        lives("loop 99;left;left;left;up;end;", 300, 0, 299, 0, 0, 1);
    }

    private static void draws() {
        says("Draws: s, at first the seed, becomes what is left of s times 3,301 and 11,533 by "
            + "65,536; the draw by n is the rest of s by 8, rounded down, by n.");
        for (int seed : new int[] {0, 1, 17, 4095, 4096, 8191, 8192, 9998, 9999}) {
            int[] drawn = drawsOf(seed, 398, 2, 16);
            Model.Frac at = new Model.Frac(1, 2);
            int missed = 0;
            for (int i = 0; i < 199; i++) {
                boolean rises = drawn[2 * i + 1] < 7;
                Model.Frac to = rises && at.bottom() == 2 ? null
                    : rises ? Model.parentOf(at) : Model.child(at, drawn[2 * i]);
                boolean goes = to != null && to.bottom() <= 9999;
                at = goes ? to : at;
                missed += goes ? 0 : 1;
            }
            from("rule(1, 7)", "tours{loop 99;any;any;end;any;}");
            run("live(" + seed + ") = 200", "here() = " + at.top() + "/" + at.bottom(),
                "lived(0) = " + missed, "lived(1) = " + (199 - missed));
        }
        // each live() begins with its seed, whatever was drawn ahead
        from("tours{any;any;any;any;}", "rule(1, 0)", "live(77)", "jump(1, 2)");
        run("live(77) = 4", "told(6) = 4", "wasAt(1, 2) = 1", "told(5) = 5");
    }

    private static void live() {
        says("LIVED by a seed (0 to 9,999): all is as it is then.",
            ": LIVED: how many STEPS were done (1; 6: no TOURS).");
        from(FULL);
        range("live(#)", 0, 9999);
        run("live(5) = 4", "told(5) = 7", "told(2) = 5", "here() = 8/15");
        from();
        run("live(0) ! 6", "live(9999) ! 6", "live(-1) ! 1", "live(10000) ! 1", "live(MIN) ! 1",
            "live(MAX) ! 1", "tours{} = 0", "live(0) = 0", "live(10000) ! 1", "study(0)",
            "live(0) ! 6");
        run("tours{left} ! 9 2@4", "live(0) ! 6");
    }

    private static void lived() {
        says(": Of live() latest with STATUS 0, what 0: MISSED, 1: how often it went LEFT, RIGHT, UP "
            + "(by any, too), 2: how many a pin was done, 3: how many a lift, 4: 1 if a STEP was come "
            + "to when 300 had been done, else 0 (1; 6: there was none).");
        from(FULL);
        range("lived(#)", 0, 4);
        run("lived(0) = 0", "lived(1) = 2", "lived(2) = 1", "lived(3) = 0", "lived(4) = 0",
            "live(10000) ! 1", "lived(1) = 2", "mean(0, 20)", "lived(1) = 2", "undo()",
            "lived(1) = 2", "study(0)", "lived(1) = 2", "live(0) ! 6", "lived(1) = 2",
            "tours{} = 0", "lived(1) = 2", "live(0) = 0", "lived(1) = 0", "lived(2) = 0");
        from();
        run("lived(0) ! 6", "lived(4) ! 6", "lived(-1) ! 1", "lived(5) ! 1", "lived(MIN) ! 1",
            "lived(MAX) ! 1", "live(0) ! 6", "lived(0) ! 6", "tours{up;up;} = 2", "lived(0) ! 6",
            "mean(0, 1) = 0/1", "lived(0) ! 6", "live(10000) ! 1", "lived(0) ! 6", "live(0) = 2",
            "lived(0) = 2", "lived(5) ! 1");
        from("rule(1, 16)");
        lives("left;right;up;any;flip;any;", 6, 1, 4, 0, 0, 0);
        lives("left;pin 3;pin 4;lift;lift;pin 5;", 6, 1, 1, 3, 1, 0);
        // each live() counts anew
        from("tours{pin 3;lift;lift;left;}", "live(0)");
        run("live(0) = 4", "lived(0) = 1", "lived(1) = 1", "lived(2) = 1", "lived(3) = 1");
        from("tours{loop 99;loop 99;flip;end;end;}", "live(0)");
        run("lived(4) = 1", "tours{flip;} = 1", "live(0) = 1", "lived(4) = 0");
    }

    private static void mean() {
        says(": The FRACTION is the mean of the WALKER's DEPTH behind the TOURS, by so many seeds (1 "
            + "to 20) from one on (1: the last above 9,999, too; 6: no TOURS); all stays as it is.");
        from(FULL);
        range("mean(#, 1)", 0, 9999);
        range("mean(7, #)", 1, 20);
        range("mean(#, 20)", 0, 9980);
        range("mean(#, 2)", 0, 9998);
        range("mean(9990, #)", 1, 10);
        each("mean(9999, 2) ! 1", "mean(9999, 1) = " + meanOf(9999, 1), "mean(MAX, MAX) ! 1",
            "mean(MAX, 1) ! 1", "mean(MIN, 20) ! 1", "mean(0, MIN) ! 1", "mean(-1, 20) ! 1",
            "mean(9999, 0) ! 1", "mean(10000, 0) ! 1", "mean(9981, 20) ! 1",
            "mean(9980, 20) = " + meanOf(9980, 20), "mean(0, 20) = " + meanOf(0, 20),
            "mean(0, 1) = " + meanOf(0, 1), "mean(123, 7) = " + meanOf(123, 7));
        // what lived() tells is of live() alone
        from("tours{up;up;}", "live(0)", "jump(1, 9)");
        run("mean(0, 3) = 5/1", "lived(0) = 2", "lived(1) = 0", "told(6) = 7");
        from();
        run("mean(0, 1) ! 6", "mean(9999, 1) ! 6", "mean(0, 20) ! 6", "mean(0, 0) ! 1",
            "mean(0, 21) ! 1", "mean(-1, 1) ! 1", "mean(10000, 1) ! 1", "mean(9999, 2) ! 1",
            "tours{} = 0", "mean(0, 20) = 0/1", "go(0)", "mean(0, 20) = 1/1", "study(0)",
            "mean(0, 1) ! 6");
    }

    /** By live() itself, each seed on an object of its own. */
    private static String meanOf(int from, int many) {
        long sum = 0;
        for (int seed = from; seed < from + many; seed++) {
            Subject x = new Subject();
            for (String line : FULL) {
                ask(x, line);
            }
            ask(x, "live(" + seed + ")");
            sum += x.ask("told", "6");
        }
        Model.Frac mean = Model.Frac.of(sum, many);
        return mean.top() + "/" + mean.bottom();
    }
}
