/** Asks whether an answer is the one that is due, and counts; feeds texts. */
final class Check {
    private static int wrong = 0;
    private static int asked = 0;

    private Check() {
    }

    static void due(String call, long got, long want) {
        asked++;
        if (got != want) {
            wrong++;
            if (wrong <= 50) {
                System.out.println(call + " answered " + got + ", due is " + want);
            }
        }
    }

    static void due(String call, boolean got, boolean want) {
        due(call, got ? 1 : 0, want ? 1 : 0);
    }

    static void due(String call, String got, String want) {
        asked++;
        if (!got.equals(want)) {
            wrong++;
            if (wrong <= 50) {
                System.out.println(call + " answered " + got + ", due is " + want);
            }
        }
    }

    /** An answer and the STATUS behind it. */
    static void due(FareyRank x, String call, long got, long want, int status) {
        due(call, got, want);
        due(call + ", STATUS", x.status(), status);
    }

    static void refused(FareyRank x, String call, long got, int status) {
        due(x, call, got, FareyRank.NONE, status);
    }

    /** A call refused leaves the FRACTION as it is. */
    static void refused(FareyRank x, String call, boolean got, int status) {
        due(call, got, false);
        due(call + ", STATUS", x.status(), status);
    }

    static void tells(FareyRank x, String call, boolean got, long top, long bottom) {
        due(call, got, true);
        due(call + ", STATUS", x.status(), 0);
        due(call + ", FRACTION", x.top() + "/" + x.bottom(), top + "/" + bottom);
    }

    /** Puts a text on an empty tape, filled up with zeros to whole feeds. */
    static void feed(FareyRank x, String text) {
        for (int from = 0; from < text.length(); from += 20) {
            int[] five = new int[5];
            for (int i = 0; i < 20; i++) {
                int sign = from + i < text.length() ? text.charAt(from + i) & 255 : 0;
                five[i / 4] = five[i / 4] << 8 | sign;
            }
            x.feed(five[0], five[1], five[2], five[3], five[4]);
        }
    }

    static int study(FareyRank x, String text) {
        feed(x, text);
        return x.study(text.length());
    }

    static int tours(FareyRank x, String text) {
        feed(x, text);
        return x.tours(text.length());
    }

    static void end() {
        System.out.println(asked + " answers asked, " + wrong + " wrong");
        if (wrong != 0 || asked == 0) {
            System.exit(1);
        }
    }
}
