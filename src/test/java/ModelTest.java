import java.lang.reflect.InvocationTargetException;
import java.lang.reflect.Method;
import java.util.ArrayList;
import java.util.Arrays;
import java.util.Comparator;
import java.util.List;
import java.util.Random;
import java.util.TreeMap;

/** Random runs of calls, on FareyRank and on Model: every answer, STATUS and FRACTION is compared. */
public final class ModelTest {
    private static final int RUNS = 3000;
    /** What a call behind these answers is free. */
    private static final int CALLS_MOST = 512;
    private static final List<String> WITHOUT_STATUS = List.of("feed", "fault");

    private final Random random;
    private final FareyRank real = new FareyRank();
    private final Model model = new Model();
    private final List<String> log = new ArrayList<>();
    private final int[][] pool = new int[8][2];
    private final boolean deep;
    private int calls = 0;

    private ModelTest(long seed) {
        random = new Random(seed);
        deep = random.nextInt(10) == 0;
        for (int[] f : pool) {
            f[1] = 1 + random.nextInt(random.nextInt(4) == 0 && deep ? 9999 : 15);
            f[0] = random.nextInt(f[1] + 1);
        }
    }

    private int below(int n) {
        return random.nextInt(n);
    }

    private boolean chance(int oneOf) {
        return below(oneOf) == 0;
    }

    /** Mostly from 'least' to 'most', often at these, at times just or far outside. */
    private int number(int least, int most) {
        switch (below(14)) {
            case 0: return least;
            case 1: return most;
            case 2: return chance(3) ? least - 1 : least;
            case 3: return chance(3) ? most + 1 : most;
            case 4:
                int[] odd = {-1, Integer.MIN_VALUE, Integer.MAX_VALUE, 10_000, -60, 1 << 30};
                return chance(4) ? odd[below(odd.length)] : least;
            default: return least + below(most - least + 1);
        }
    }

    private int[] value() {
        switch (below(12)) {
            case 0: {
                int b = 1 + below(deep ? 9999 : 300);
                return new int[] {below(b + 1), b};
            }
            case 1: {
                int[] f = pool[below(pool.length)];
                int by = f[1] > 0 && f[1] < 1000 ? 1 + below(9) : 1;
                return new int[] {f[0] * by, f[1] * by};
            }
            case 2: {
                int b = 1 + below(9999);
                int[][] edges = {{0, b}, {b, b}, {1, 2}, {1, deep ? 9999 : 99}, {0, 1}, {1, 1},
                    {deep ? 9998 : 98, deep ? 9999 : 99}};
                return edges[below(edges.length)];
            }
            case 3: {
                int[][] bad = {{1, 0}, {-1, 5}, {6, 5}, {0, 0}, {0, 10_000}, {3, -4},
                    {Integer.MIN_VALUE, 1}, {1, Integer.MAX_VALUE}, {5000, 10_000}};
                return chance(3) ? bad[below(bad.length)] : pool[below(pool.length)];
            }
            default: return pool[below(pool.length)];
        }
    }

    // ---- texts

    private String blank() {
        return new String[] {" ", " ", " ", "\n", "  "}[below(5)];
    }

    private String near() {
        return chance(4) ? blank() : "";
    }

    private String valueText() {
        int[] f = value();
        if (chance(3)) {
            f = new int[] {1, 2 + below(6)};
        }
        return Math.abs(f[0] % 100_000) + blank() + "by" + blank() + Math.abs(f[1] % 100_000);
    }

    private String numberText(int least, int most) {
        int n = chance(25) ? number(least, most) : least + below(most - least + 1);
        return (chance(20) ? "0" : "") + Math.abs((long) n);
    }

    private String studyText() {
        StringBuilder text = new StringBuilder();
        int parts = chance(8) ? 14 : below(7);
        for (int i = 0; i < parts; i++) {
            text.append(near());
            switch (below(10)) {
                case 0: text.append("odds").append(blank()).append(numberText(0, 16)); break;
                case 1: text.append("order").append(blank()).append(numberText(1, 200)); break;
                case 2: text.append("here").append(blank()).append(valueText()); break;
                default:
                    text.append("pin").append(blank());
                    text.append(chance(3) ? valueText() : 1 + below(40) + " by " + (40 + below(30)));
                    if (chance(2)) {
                        text.append(blank()).append("weight").append(blank());
                        text.append(numberText(1, 99));
                    }
            }
            text.append(near()).append(";").append(near());
        }
        return spoil(text);
    }

    private String toursText() {
        StringBuilder text = new StringBuilder();
        steps(text, 0, chance(12) ? 31 : 1 + below(7));
        return spoil(text);
    }

    private void steps(StringBuilder text, int nest, int many) {
        String[] plain = {"left", "right", "up", "flip", "lift", "any", "any", "left", "right"};
        for (int i = 0; i < many; i++) {
            int kind = below(many > 20 ? 10 : 20);
            if (kind < 10) {
                text.append(chance(150) ? "stop" : plain[below(plain.length)]);
            } else if (kind < 12) {
                text.append("pin").append(blank()).append(numberText(1, 99));
            } else if (kind < 13) {
                text.append("order").append(blank()).append(numberText(1, 12));
            } else if (kind < 14) {
                text.append("stop".substring(0, 4));
            } else if (nest < (chance(8) ? 5 : 3)) {
                text.append(kind < 17 ? test() : "loop " + numberText(1, chance(4) ? 99 : 12));
                text.append(near()).append(";").append(near());
                steps(text, nest + 1, below(4));
                text.append("end");
            } else {
                text.append("any");
            }
            text.append(near()).append(";").append(near());
        }
    }

    private String test() {
        String sign = near() + "<>=".charAt(below(3)) + near();
        switch (below(4)) {
            case 0: return "when at " + valueText();
            case 1: return "when pinned";
            case 2: return "when depth" + sign + numberText(0, 9);
            default: return "when bottom" + sign + numberText(0, 30);
        }
    }

    /** At times a text is cut, or a sign of it is changed, put in or left out. */
    private String spoil(StringBuilder text) {
        if (text.length() > 0 && chance(5)) {
            int at = below(text.length());
            String odd = "; 0\n5<=>a#endby\u00e9\u0000A9";
            switch (below(4)) {
                case 0: text.setLength(at); break;
                case 1: text.deleteCharAt(at); break;
                case 2: text.setCharAt(at, odd.charAt(below(odd.length()))); break;
                default: text.insert(at, odd.charAt(below(odd.length())));
            }
        }
        return text.toString();
    }

    // ---- calls

    private long ask(Object on, String name, Object[] args) {
        try {
            Class<?>[] types = new Class<?>[args.length];
            for (int i = 0; i < args.length; i++) {
                types[i] = args[i] instanceof Long ? long.class : int.class;
            }
            Method method = on.getClass().getDeclaredMethod(name, types);
            Object got = method.invoke(on, args);
            return got instanceof Boolean b ? (b ? 1 : 0) : ((Number) got).longValue();
        } catch (InvocationTargetException e) {
            if (e.getCause() instanceof Model.No no) {
                model.status = no.status;
                return Long.MIN_VALUE;
            }
            throw new IllegalStateException(log.toString(), e.getCause());
        } catch (ReflectiveOperationException e) {
            throw new IllegalStateException(e);
        }
    }

    private static final TreeMap<String, Integer> COUNTS = new TreeMap<>();

    /** The FRACTION is asked where one may have been told, and at times else. */
    private boolean sameFraction(String name) {
        if (!isBoolean(name) && !chance(5)) {
            return true;
        }
        calls += 2;
        return real.top() == model.told.top() && real.bottom() == model.told.bottom();
    }

    private boolean call(String name, Object... args) {
        calls += 2;
        if (calls + 2 > CALLS_MOST) {
            return true;
        }
        if (!WITHOUT_STATUS.contains(name)) {
            model.status = 0;
        }
        long want = ask(model, name, args);
        long got = ask(real, name, args);
        if (want == Long.MIN_VALUE) {
            want = isBoolean(name) ? 0 : -1;
        }
        String call = name + Arrays.toString(args);
        int status = real.status();
        log.add(call + " = " + got + ", " + status);
        if (!WITHOUT_STATUS.contains(name)) {
            COUNTS.merge(name + " " + model.status, 1, Integer::sum);
        }
        boolean same = got == want && status == model.status && sameFraction(name);
        Check.due("same answers to " + call, same, true);
        if (!same) {
            System.out.println("due is " + want + ", STATUS " + model.status + ", FRACTION "
                + model.told + "; the run:");
            log.forEach(l -> System.out.println("  " + l));
        }
        return same;
    }

    private static boolean isBoolean(String name) {
        for (Method m : FareyRank.class.getMethods()) {
            if (m.getName().equals(name)) {
                return m.getReturnType() == boolean.class;
            }
        }
        return false;
    }

    private boolean text(String name, String text) {
        for (int from = 0; from < text.length(); from += 20) {
            Integer[] five = {0, 0, 0, 0, 0};
            for (int i = 0; i < 20; i++) {
                int sign = from + i < text.length() ? text.charAt(from + i) & 255 : 0;
                five[i / 4] = five[i / 4] << 8 | sign;
            }
            if (!call("feed", (Object[]) five)) {
                return false;
            }
        }
        return call(name, chance(30) ? number(0, text.length()) : text.length())
            && call("fault", 0) && call("fault", 1);
    }

    private static final String[] OF_VALUE = {"place", "rank", "above", "ahead", "nearest",
        "depth", "parent", "terms", "jump", "wasAt", "lift", "weight", "share"};
    private static final String[] OF_TWO = {"between", "simplest", "wide"};
    private static final String[] OF_NOTHING = {"here", "up", "flip", "heaviest", "middle", "gap",
        "pinsOfRow", "mark", "undo"};

    private boolean any() {
        switch (below(30)) {
            case 0: case 1: case 2: case 3: case 4: case 5: {
                int[] f = value();
                String name = OF_VALUE[below(OF_VALUE.length)];
                return call(name.equals("jump") && f[1] > 200 && !deep ? "depth" : name, f[0], f[1]);
            }
            case 6: case 7: {
                int[] f = value();
                int[] g = value();
                return call(OF_TWO[below(OF_TWO.length)], f[0], f[1], g[0], g[1]);
            }
            case 8: case 9: case 10: return call(OF_NOTHING[below(OF_NOTHING.length)]);
            case 11: case 12: {
                int[] f = value();
                return call("pin", f[0], f[1], chance(2) ? number(1, 99) : 99);
            }
            case 13: case 14: return call("go", number(0, 1));
            case 15: return text("study", studyText());
            case 16: case 17: return text("tours", toursText());
            case 18: case 19: return call("live", number(0, 9999));
            case 20: return call("mean", number(0, 9999), number(1, 20));
            case 21: return call("lived", number(0, 4));
            case 22: return call("told", number(0, 6));
            case 23: return call("fault", number(0, 1));
            case 24: return ofTrays();
            case 25: return ofNumbers();
            case 26: return ofPlaces();
            case 27: return call("rule", number(0, 1), chance(2) ? number(0, 16) : number(1, 200));
            case 28: return ofTrays();
            default: return ofNumbers();
        }
    }

    private boolean ofTrays() {
        switch (below(7)) {
            case 0: return call("tray", number(0, 3), number(0, 3), chance(2) ? number(0, 60) : 24);
            case 1: return call("write", number(0, 3), number(0, 25),
                chance(2) ? (long) below(2) : random.nextLong());
            case 2: return call("read", number(0, 3), number(0, 25));
            case 3: return call("pour", number(0, 3), number(0, 20), number(0, 3), number(0, 20),
                number(0, 20));
            case 4: return call("copyPins", number(0, 3));
            case 5: return call("tray", below(4), below(2), 24);
            default: return call("follow", number(0, 3), number(0, 20));
        }
    }

    private boolean ofNumbers() {
        switch (below(8)) {
            case 0: return call("size", number(1, 200));
            case 1: return call("fraction", number(0, chance(2) ? 10 : 12_232));
            case 2: return call("coprimes", number(0, 200), number(0, 200));
            case 3: return call("wrong", number(0, 12), number(0, 12));
            case 4: return call("part", number(1, 200));
            case 5: return call("below", random.nextLong() >>> (10 + below(54)), number(-60, 0));
            case 6: {
                int e = below(54);
                return call("below", (1L << e) - below(2), chance(9) ? number(-60, 0) : -e);
            }
            default: return call(chance(2) ? "pinAt" : "risingAt", number(0, 11));
        }
    }

    private boolean ofPlaces() {
        int[] f = value();
        switch (below(6)) {
            case 0: return call("turnAt", f[0], f[1], number(0, 9));
            case 1: return call("termAt", f[0], f[1], number(0, 6));
            case 2: return call("digits", f[0], f[1], number(0, 1));
            case 3: return call("digitAt", f[0], f[1], number(0, chance(2) ? 9 : 9999));
            case 4: return call("game", f[0], f[1], number(0, 10));
            default: return call("moveOf", f[0], f[1], number(1, 10));
        }
    }

    public static void main(String[] args) {
        int bad = 0;
        long from = Long.getLong("from", 1);
        int runs = Integer.getInteger("runs", RUNS);
        for (long seed = from; seed < from + runs && bad < 3; seed++) {
            ModelTest run = new ModelTest(seed);
            while (run.calls + 2 <= CALLS_MOST) {
                if (!run.any()) {
                    bad++;
                    System.out.println("seed " + seed);
                    break;
                }
            }
        }
        if (Boolean.getBoolean("counts")) {
            COUNTS.entrySet().stream().sorted(Comparator.comparing(e -> e.getKey()))
                .forEach(e -> System.out.println(e.getKey() + ": " + e.getValue()));
        }
        Check.end();
    }
}
