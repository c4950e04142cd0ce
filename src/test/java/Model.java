import java.math.BigInteger;
import java.util.ArrayList;
import java.util.List;
import java.util.TreeSet;

/**
 * A second program of the document, as slow and as plain as can be: it lists, walks and counts
 * where FareyRank reckons. Every call answers a long (a boolean as 1 or 0).
 */
final class Model {
    /** A call is refused, with a STATUS. */
    static final class No extends RuntimeException {
        private static final long serialVersionUID = 1L;
        final int status;

        No(int status) {
            super(null, null, false, false);
            this.status = status;
        }
    }

    /** A FAULT of a text. */
    static final class Fault extends RuntimeException {
        private static final long serialVersionUID = 1L;
        final int kind;
        final int place;

        Fault(int kind, int place) {
            super(null, null, false, false);
            this.kind = kind;
            this.place = place;
        }
    }

    record Frac(long top, long bottom) implements Comparable<Frac> {
        static Frac of(long top, long bottom) {
            long g = BigInteger.valueOf(top).gcd(BigInteger.valueOf(bottom)).longValueExact();
            return new Frac(top / g, bottom / g);
        }

        public int compareTo(Frac o) {
            return Long.compare(Math.multiplyExact(top, o.bottom),
                Math.multiplyExact(o.top, bottom));
        }

        Frac minus(Frac o) {
            return of(top * o.bottom - o.top * bottom, bottom * o.bottom);
        }

        Frac mediant(Frac o) {
            return new Frac(top + o.top, bottom + o.bottom);
        }

        boolean ofTree() {
            return bottom > 1;
        }
    }

    record Pin(Frac value, int weight) {
    }

    /** A STEP, or a when or a loop with its own STEPS. */
    static final class Step {
        String word;
        int number;
        String test;
        char compares;
        Frac value;
        List<Step> inner = new ArrayList<>();
    }

    /** What a MARK keeps. */
    static final class State {
        int order = 5;
        int odds = 4;
        Frac here = new Frac(1, 2);
        List<Pin> pins = new ArrayList<>();
        List<Frac> visited = new ArrayList<>(List.of(new Frac(1, 2)));
        List<Step> tours = null;

        State copy() {
            State s = new State();
            s.order = order;
            s.odds = odds;
            s.here = here;
            s.pins = new ArrayList<>(pins);
            s.visited = new ArrayList<>(visited);
            s.tours = tours;
            return s;
        }

        int find(Frac f) {
            for (int i = 0; i < pins.size(); i++) {
                if (pins.get(i).value.equals(f)) {
                    return i;
                }
            }
            return -1;
        }

        void be(Frac f) {
            here = f;
            if (!visited.contains(f) && visited.size() < 200) {
                visited.add(f);
            }
        }

        /** 0, or the STATUS. */
        int pin(Frac f, int weight) {
            int at = find(f);
            if (at < 0) {
                if (pins.size() == 12) {
                    return 4;
                }
                pins.add(new Pin(f, weight));
                return 0;
            }
            if (pins.get(at).weight + weight > 999) {
                return 7;
            }
            pins.set(at, new Pin(f, pins.get(at).weight + weight));
            return 0;
        }
    }

    int status = 0;
    Frac told = new Frac(0, 1);
    private State now = new State();
    private final List<State> marks = new ArrayList<>();
    private final long[][] trays = new long[4][];
    private final int[] sorts = new int[4];
    private final StringBuilder tape = new StringBuilder();
    private int faultKind = -1;
    private int faultPlace = -1;
    private int[] lived = null;

    // ---- help

    private static void need(boolean holds, int status) {
        if (!holds) {
            throw new No(status);
        }
    }

    private static Frac value(int top, int bottom) {
        need(bottom >= 1 && bottom <= 9999 && top >= 0 && top <= bottom, 1);
        return Frac.of(top, bottom);
    }

    private static Frac ofTree(int top, int bottom) {
        Frac f = value(top, bottom);
        need(f.ofTree(), 7);
        return f;
    }

    private long tell(Frac f) {
        told = f;
        return 1;
    }

    private long tell(BigInteger top, BigInteger bottom) {
        BigInteger g = top.gcd(bottom);
        told = new Frac(top.divide(g).longValueExact(), bottom.divide(g).longValueExact());
        return 1;
    }

    static List<Frac> rowOf(int order) {
        TreeSet<Frac> row = new TreeSet<>();
        for (int b = 1; b <= order; b++) {
            for (int t = 0; t <= b; t++) {
                row.add(Frac.of(t, b));
            }
        }
        return new ArrayList<>(row);
    }

    private static final List<List<Frac>> ROWS = new ArrayList<>();

    private static List<Frac> rowKept(int order) {
        while (ROWS.size() <= order) {
            ROWS.add(null);
        }
        if (ROWS.get(order) == null) {
            ROWS.set(order, rowOf(order));
        }
        return ROWS.get(order);
    }

    private List<Frac> row() {
        return rowKept(now.order);
    }

    /** The way down from 1 by 2; the lesser and the greater one in the end come to 'ends'. */
    static List<Integer> way(Frac to, Frac[] ends) {
        List<Integer> turns = new ArrayList<>();
        Frac low = new Frac(0, 1);
        Frac high = new Frac(1, 1);
        Frac at = new Frac(1, 2);
        while (!at.equals(to)) {
            if (to.compareTo(at) < 0) {
                turns.add(0);
                high = at;
            } else {
                turns.add(1);
                low = at;
            }
            at = low.mediant(high);
        }
        ends[0] = low;
        ends[1] = high;
        return turns;
    }

    static int depthOf(Frac f) {
        return way(f, new Frac[2]).size();
    }

    static Frac child(Frac f, int turn) {
        Frac[] ends = new Frac[2];
        way(f, ends);
        return f.mediant(ends[turn]);
    }

    static Frac parentOf(Frac f) {
        List<Integer> turns = way(f, new Frac[2]);
        Frac low = new Frac(0, 1);
        Frac high = new Frac(1, 1);
        Frac at = new Frac(1, 2);
        for (int i = 0; i < turns.size() - 1; i++) {
            if (turns.get(i) == 0) {
                high = at;
            } else {
                low = at;
            }
            at = low.mediant(high);
        }
        return at;
    }

    // ---- trays

    long tray(int tray, int sort, int many) {
        need(tray >= 0 && tray <= 3 && sort >= 0 && sort <= 3 && many >= 0 && many <= 60, 1);
        trays[tray] = new long[many];
        sorts[tray] = sort;
        return 1;
    }

    private long[] trayOf(int tray) {
        need(tray >= 0 && tray <= 3, 1);
        need(trays[tray] != null, 2);
        return trays[tray];
    }

    private void put(int tray, int place, long v) {
        int away = 64 - (8 << sorts[tray]);
        trays[tray][place] = v << away >> away;
    }

    long write(int tray, int place, long v) {
        long[] t = trayOf(tray);
        need(place >= 0 && place < t.length, 3);
        put(tray, place, v);
        return 1;
    }

    long read(int tray, int place) {
        long[] t = trayOf(tray);
        need(place >= 0 && place < t.length, 3);
        return t[place];
    }

    long pour(int from, int place, int to, int at, int many) {
        need(from >= 0 && from <= 3 && to >= 0 && to <= 3, 1);
        need(place >= 0 && at >= 0 && many >= 0, 1);
        need(trays[from] != null && trays[to] != null, 2);
        need(sorts[from] == sorts[to], 8);
        need((long) place + many <= trays[from].length, 3);
        need((long) at + many <= trays[to].length, 3);
        long[] were = trays[from].clone();
        for (int i = 0; i < many; i++) {
            trays[to][at + i] = were[place + i];
        }
        return 1;
    }

    // ---- texts

    long feed(int a, int b, int c, int d, int e) {
        if (tape.length() + 20 > 900) {
            return -1;
        }
        for (int v : new int[] {a, b, c, d, e}) {
            tape.append((char) (v >> 24 & 255)).append((char) (v >> 16 & 255));
            tape.append((char) (v >> 8 & 255)).append((char) (v & 255));
        }
        return tape.length();
    }

    record Token(char kind, String text, int at) {
        int number() {
            return Integer.parseInt(text);
        }
    }

    /** All TOKENS; kind w, n, s, ? (none begins so) and e (the end). */
    static List<Token> tokens(String text) {
        List<Token> found = new ArrayList<>();
        java.util.regex.Matcher m = java.util.regex.Pattern
            .compile("([a-z]+)|([0-9]+)|([;<>=])|([\\n ]+)|(.)", java.util.regex.Pattern.DOTALL)
            .matcher(text);
        while (m.find()) {
            if (m.group(1) != null) {
                found.add(new Token('w', m.group(), m.start()));
            } else if (m.group(2) != null) {
                found.add(new Token(m.group().length() > 4 ? '?' : 'n', m.group(), m.start()));
            } else if (m.group(3) != null) {
                found.add(new Token('s', m.group(), m.start()));
            } else if (m.group(5) != null) {
                found.add(new Token('?', m.group(), m.start()));
            }
        }
        found.add(new Token('e', "", text.length()));
        return found;
    }

    private List<Token> toks;
    private int next;
    private int steps;

    private Token look() {
        Token t = toks.get(next);
        if (t.kind == '?') {
            throw new Fault(1, t.at);
        }
        return t;
    }

    private Token misfit() {
        throw new Fault(2, look().at);
    }

    private void pass(String text) {
        if (!look().text.equals(text) || look().kind == 'e') {
            misfit();
        }
        next++;
    }

    private int number(int least, int most) {
        Token t = look();
        if (t.kind != 'n') {
            misfit();
        }
        if (t.number() < least || t.number() > most) {
            throw new Fault(4, t.at);
        }
        next++;
        return t.number();
    }

    private Frac textValue() {
        int top = number(0, 9999);
        pass("by");
        int bottom = number(Math.max(1, top), 9999);
        return Frac.of(top, bottom);
    }

    private State parseStudy(String text) {
        toks = tokens(text);
        next = 0;
        State s = new State();
        TreeSet<String> seen = new TreeSet<>();
        while (look().kind != 'e') {
            Token word = look();
            if (List.of("odds", "order", "here").contains(word.text)) {
                if (!seen.add(word.text)) {
                    throw new Fault(5, word.at);
                }
                next++;
                if (word.text.equals("odds")) {
                    s.odds = number(0, 16);
                } else if (word.text.equals("order")) {
                    s.order = number(1, 200);
                } else {
                    s.here = textValue();
                    if (!s.here.ofTree()) {
                        throw new Fault(4, toks.get(next - 1).at);
                    }
                }
            } else if (word.text.equals("pin")) {
                if (s.pins.size() == 12) {
                    throw new Fault(6, word.at);
                }
                next++;
                Frac f = textValue();
                if (s.find(f) >= 0) {
                    throw new Fault(5, toks.get(next - 1).at);
                }
                int weight = 1;
                if (look().text.equals("weight")) {
                    next++;
                    weight = number(1, 99);
                }
                s.pins.add(new Pin(f, weight));
            } else {
                misfit();
            }
            pass(";");
        }
        s.visited = new ArrayList<>(List.of(s.here));
        return s;
    }

    private List<Step> parseSteps(int nest) {
        List<Step> list = new ArrayList<>();
        while (look().kind != 'e' && !(nest > 0 && look().text.equals("end"))) {
            list.add(parseStep(nest));
        }
        return list;
    }

    private Step parseStep(int nest) {
        Token word = look();
        List<String> words = List.of("left", "right", "up", "flip", "pin", "lift", "order", "any",
            "when", "loop", "stop");
        if (!words.contains(word.text)) {
            misfit();
        }
        if (steps == 30) {
            throw new Fault(6, word.at);
        }
        boolean nests = word.text.equals("when") || word.text.equals("loop");
        if (nests && nest == 3) {
            throw new Fault(7, word.at);
        }
        steps++;
        next++;
        Step s = new Step();
        s.word = word.text;
        switch (s.word) {
            case "pin", "loop" -> s.number = number(1, 99);
            case "order" -> s.number = number(1, 200);
            case "when" -> parseTest(s);
            default -> { }
        }
        pass(";");
        if (nests) {
            s.inner = parseSteps(nest + 1);
            pass("end");
            pass(";");
        }
        return s;
    }

    private void parseTest(Step s) {
        s.test = look().text;
        if (!List.of("at", "pinned", "depth", "bottom").contains(s.test)) {
            misfit();
        }
        next++;
        if (s.test.equals("at")) {
            s.value = textValue();
        } else if (!s.test.equals("pinned")) {
            if (!List.of("<", ">", "=").contains(look().text)) {
                misfit();
            }
            s.compares = look().text.charAt(0);
            next++;
            s.number = number(0, 9999);
        }
    }

    private String takeTape(int n, int most) {
        need(n >= 0 && n <= tape.length() && n <= most, 1);
        String text = tape.substring(0, n);
        tape.setLength(0);
        return text;
    }

    long study(int n) {
        String text = takeTape(n, 900);
        faultKind = 0;
        faultPlace = -1;
        try {
            now = parseStudy(text);
            return now.pins.size();
        } catch (Fault f) {
            faultKind = f.kind;
            faultPlace = f.place;
            throw new No(9);
        }
    }

    long tours(int n) {
        String text = takeTape(n, 300);
        faultKind = 0;
        faultPlace = -1;
        try {
            toks = tokens(text);
            next = 0;
            steps = 0;
            now.tours = parseSteps(0);
            return steps;
        } catch (Fault f) {
            faultKind = f.kind;
            faultPlace = f.place;
            throw new No(9);
        }
    }

    long fault(int what) {
        return what == 0 ? faultKind : what == 1 ? faultPlace : -1;
    }

    long told(int what) {
        switch (what) {
            case 0: return now.order;
            case 1: return now.odds;
            case 2: return now.pins.size();
            case 3: return allWeight();
            case 4: return row().size();
            case 5: return now.visited.size();
            case 6: return depthOf(now.here);
            default: throw new No(1);
        }
    }

    // ---- the row

    long size(int order) {
        need(order >= 1 && order <= 200, 1);
        return rowKept(order).size();
    }

    long fraction(int k) {
        need(k >= 0, 1);
        need(k < row().size(), 6);
        return tell(row().get(k));
    }

    long place(int top, int bottom) {
        Frac f = value(top, bottom);
        int at = row().indexOf(f);
        need(at >= 0, 6);
        return at;
    }

    private long countBelow(Frac f) {
        return row().stream().filter(r -> r.compareTo(f) < 0).count();
    }

    long rank(int top, int bottom) {
        return countBelow(value(top, bottom));
    }

    long below(long m, int e) {
        need(m >= 0 && m <= 1L << 53 && e >= -60 && e <= 0, 1);
        BigInteger whole = BigInteger.ONE.shiftLeft(-e);
        BigInteger many = BigInteger.valueOf(m);
        need(many.compareTo(whole) <= 0, 1);
        return row().stream().filter(r -> BigInteger.valueOf(r.top).multiply(whole)
            .compareTo(BigInteger.valueOf(r.bottom).multiply(many)) < 0).count();
    }

    long above(int top, int bottom) {
        Frac f = value(top, bottom);
        for (Frac r : row()) {
            if (r.compareTo(f) > 0) {
                return tell(r);
            }
        }
        throw new No(6);
    }

    long ahead(int top, int bottom) {
        Frac f = value(top, bottom);
        Frac best = null;
        for (Frac r : row()) {
            if (r.compareTo(f) < 0) {
                best = r;
            }
        }
        need(best != null, 6);
        return tell(best);
    }

    long nearest(int top, int bottom) {
        Frac f = value(top, bottom);
        Frac best = null;
        Frac least = null;
        for (Frac r : row()) {
            Frac off = r.compareTo(f) < 0 ? f.minus(r) : r.minus(f);
            if (best == null || off.compareTo(least) < 0) {
                best = r;
                least = off;
            }
        }
        return tell(best);
    }

    long between(int top, int bottom, int other, int by) {
        Frac a = value(top, bottom);
        Frac b = value(other, by);
        Frac low = a.compareTo(b) < 0 ? a : b;
        Frac high = low == a ? b : a;
        return row().stream().filter(r -> r.compareTo(low) > 0 && r.compareTo(high) < 0).count();
    }

    long coprimes(int a, int b) {
        need(a >= 0 && a <= 200 && b >= 0 && b <= 200, 1);
        long count = 0;
        for (int x = 1; x <= a; x++) {
            for (int y = 1; y <= b; y++) {
                if (Frac.of(x, y).bottom == y) {
                    count++;
                }
            }
        }
        return count;
    }

    long simplest(int top, int bottom, int other, int by) {
        Frac a = value(top, bottom);
        Frac b = value(other, by);
        need(!a.equals(b), 7);
        Frac low = a.compareTo(b) < 0 ? a : b;
        Frac high = low == a ? b : a;
        for (long q = 1; ; q++) {
            long p = low.top * q / low.bottom + 1;
            Frac f = new Frac(p, q);
            if (f.compareTo(high) < 0) {
                return tell(f);
            }
        }
    }

    long wide(int top, int bottom, int other, int by) {
        Frac a = value(top, bottom);
        Frac b = value(other, by);
        return Math.abs(a.top * b.bottom - b.top * a.bottom);
    }

    // ---- the tree

    long depth(int top, int bottom) {
        return depthOf(ofTree(top, bottom));
    }

    long turnAt(int top, int bottom, int k) {
        value(top, bottom);
        need(k >= 0, 1);
        List<Integer> turns = way(ofTree(top, bottom), new Frac[2]);
        need(k < turns.size(), 6);
        return turns.get(k);
    }

    long parent(int top, int bottom) {
        Frac f = ofTree(top, bottom);
        need(!f.equals(new Frac(1, 2)), 6);
        return tell(parentOf(f));
    }

    long follow(int tray, int n) {
        need(n >= 0 && n <= 20, 1);
        long[] t = trayOf(tray);
        need(n <= t.length, 3);
        Frac at = new Frac(1, 2);
        for (int i = 0; i < n; i++) {
            need(t[i] == 0 || t[i] == 1, 5);
            at = child(at, (int) t[i]);
        }
        return tell(at);
    }

    private static List<Long> termsOf(Frac f) {
        List<Long> terms = new ArrayList<>();
        long t = f.top;
        long b = f.bottom;
        terms.add(t / b);
        t %= b;
        while (t != 0) {
            long whole = b / t;
            long left = b % t;
            terms.add(whole);
            b = t;
            t = left;
        }
        return terms;
    }

    long terms(int top, int bottom) {
        return termsOf(value(top, bottom)).size();
    }

    long termAt(int top, int bottom, int k) {
        List<Long> terms = termsOf(value(top, bottom));
        need(k >= 0, 1);
        need(k < terms.size(), 6);
        return terms.get(k);
    }

    /** By long division: the rests that came, and where each came first. */
    long digits(int top, int bottom, int what) {
        Frac f = value(top, bottom);
        need(what == 0 || what == 1, 1);
        java.util.Map<Long, Integer> first = new java.util.HashMap<>();
        long rest = f.top % f.bottom;
        int at = 0;
        while (rest != 0 && !first.containsKey(rest)) {
            first.put(rest, at);
            rest = rest * 10 % f.bottom;
            at++;
        }
        if (rest == 0) {
            return what == 0 ? at : 0;
        }
        return what == 0 ? first.get(rest) : at - first.get(rest);
    }

    long digitAt(int top, int bottom, int k) {
        Frac f = value(top, bottom);
        need(k >= 0 && k <= 9999, 1);
        long rest = f.top % f.bottom;
        for (int i = 0; i < k; i++) {
            rest = rest * 10 % f.bottom;
        }
        return rest * 10 / f.bottom;
    }

    // ---- the walker

    long here() {
        return tell(now.here);
    }

    long go(int turn) {
        need(turn == 0 || turn == 1, 1);
        Frac to = child(now.here, turn);
        need(to.bottom <= 9999, 7);
        now.be(to);
        return depthOf(to);
    }

    long up() {
        need(!now.here.equals(new Frac(1, 2)), 6);
        now.be(parentOf(now.here));
        return depthOf(now.here);
    }

    long flip() {
        now.be(new Frac(now.here.bottom - now.here.top, now.here.bottom));
        return depthOf(now.here);
    }

    long jump(int top, int bottom) {
        now.be(ofTree(top, bottom));
        return depthOf(now.here);
    }

    long wasAt(int top, int bottom) {
        return now.visited.contains(value(top, bottom)) ? 1 : 0;
    }

    long rule(int what, int much) {
        need(what == 0 || what == 1, 1);
        need(what == 0 ? much >= 1 && much <= 200 : much >= 0 && much <= 16, 1);
        need(much != (what == 0 ? now.order : now.odds), 7);
        if (what == 0) {
            now.order = much;
        } else {
            now.odds = much;
        }
        return row().size();
    }

    // ---- pins

    private int allWeight() {
        return now.pins.stream().mapToInt(Pin::weight).sum();
    }

    private List<Pin> rising() {
        List<Pin> list = new ArrayList<>(now.pins);
        list.sort((a, b) -> a.value.compareTo(b.value));
        return list;
    }

    long pin(int top, int bottom, int weight) {
        Frac f = value(top, bottom);
        need(weight >= 1 && weight <= 99, 1);
        int why = now.pin(f, weight);
        need(why == 0, why);
        return now.pins.get(now.find(f)).weight;
    }

    long lift(int top, int bottom) {
        int at = now.find(value(top, bottom));
        need(at >= 0, 6);
        return now.pins.remove(at).weight;
    }

    long weight(int top, int bottom) {
        int at = now.find(value(top, bottom));
        need(at >= 0, 6);
        return now.pins.get(at).weight;
    }

    long pinAt(int k) {
        need(k >= 0, 1);
        need(k < now.pins.size(), 6);
        return tell(now.pins.get(k).value);
    }

    long risingAt(int k) {
        need(k >= 0, 1);
        need(k < now.pins.size(), 6);
        return tell(rising().get(k).value);
    }

    long heaviest() {
        need(!now.pins.isEmpty(), 6);
        Pin best = null;
        for (Pin p : rising()) {
            if (best == null || p.weight > best.weight) {
                best = p;
            }
        }
        return tell(best.value);
    }

    long middle() {
        need(!now.pins.isEmpty(), 6);
        double sum = 0;
        for (Pin p : rising()) {
            sum += p.weight;
            if (sum >= allWeight() / 2.0) {
                return tell(p.value);
            }
        }
        throw new IllegalStateException();
    }

    long gap() {
        List<Frac> all = new ArrayList<>();
        all.add(new Frac(0, 1));
        rising().forEach(p -> all.add(p.value));
        all.add(new Frac(1, 1));
        Frac best = new Frac(0, 1);
        for (int i = 1; i < all.size(); i++) {
            Frac off = all.get(i).minus(all.get(i - 1));
            best = off.compareTo(best) > 0 ? off : best;
        }
        return tell(best);
    }

    long share(int top, int bottom) {
        Frac f = value(top, bottom);
        need(!now.pins.isEmpty(), 6);
        int sum = 0;
        for (Pin p : now.pins) {
            sum += p.value.compareTo(f) <= 0 ? p.weight : 0;
        }
        return tell(Frac.of(sum, allWeight()));
    }

    long pinsOfRow() {
        return now.pins.stream().filter(p -> row().contains(p.value)).count();
    }

    long copyPins(int tray) {
        long[] t = trayOf(tray);
        int n = now.pins.size();
        need(t.length >= 2 * n, 3);
        for (int i = 0; i < n; i++) {
            put(tray, i, now.pins.get(i).value.top);
            put(tray, n + i, now.pins.get(i).value.bottom);
        }
        return n;
    }

    // ---- games, odds

    private static long best(Frac low, Frac high, int n, boolean first) {
        Frac at = low.mediant(high);
        if (n == 0) {
            return at.bottom;
        }
        long left = best(low, at, n - 1, !first);
        long right = best(at, high, n - 1, !first);
        return first ? Math.max(left, right) : Math.min(left, right);
    }

    long game(int top, int bottom, int n) {
        value(top, bottom);
        need(n >= 0 && n <= 10, 1);
        Frac[] ends = new Frac[2];
        way(ofTree(top, bottom), ends);
        return best(ends[0], ends[1], n, true);
    }

    long moveOf(int top, int bottom, int n) {
        value(top, bottom);
        need(n >= 1 && n <= 10, 1);
        Frac f = ofTree(top, bottom);
        Frac[] ends = new Frac[2];
        way(f, ends);
        return best(ends[0], f, n - 1, false) >= best(f, ends[1], n - 1, false) ? 0 : 1;
    }

    /** The odds of j wrong ones of n, by a table, as sixteenths to the n. */
    long wrong(int n, int k) {
        need(n >= 0 && n <= 12 && k >= 0 && k <= 12, 1);
        BigInteger[] odds = new BigInteger[14];
        java.util.Arrays.fill(odds, BigInteger.ZERO);
        odds[0] = BigInteger.ONE;
        for (int i = 0; i < n; i++) {
            for (int j = 13; j >= 0; j--) {
                BigInteger right = odds[j].multiply(BigInteger.valueOf(16 - now.odds));
                BigInteger wrong = j == 0 ? BigInteger.ZERO
                    : odds[j - 1].multiply(BigInteger.valueOf(now.odds));
                odds[j] = right.add(wrong);
            }
        }
        BigInteger sum = BigInteger.ZERO;
        for (int j = k; j <= 13; j++) {
            sum = sum.add(odds[j]);
        }
        return tell(sum, BigInteger.valueOf(16).pow(n));
    }

    long part(int b) {
        need(b >= 1 && b <= 200, 1);
        long many = row().stream().filter(r -> r.bottom <= b).count();
        return tell(Frac.of(many, row().size()));
    }

    // ---- tours

    private static final class Stopped extends RuntimeException {
        private static final long serialVersionUID = 1L;

        Stopped() {
            super(null, null, false, false);
        }
    }

    /** One living: done, missed, moved, pins, lifts, over. */
    private static final class Life {
        final State state;
        int seed;
        final int[] counts = new int[6];

        Life(State state, int seed) {
            this.state = state;
            this.seed = seed;
        }

        void run() {
            try {
                all(state.tours);
            } catch (Stopped s) {
                return;
            }
        }

        private void all(List<Step> list) {
            for (Step s : list) {
                one(s);
            }
        }

        private int draw(int n) {
            seed = (int) ((seed * 3301L + 11533L) % 65536L);
            return seed / 8 % n;
        }

        private void one(Step s) {
            if (counts[0] == 300) {
                counts[5] = 1;
                throw new Stopped();
            }
            counts[0]++;
            switch (s.word) {
                case "left" -> move(0);
                case "right" -> move(1);
                case "up" -> rise();
                case "flip" -> state.be(new Frac(state.here.bottom - state.here.top,
                    state.here.bottom));
                case "pin" -> counts[state.pin(state.here, s.number) == 0 ? 3 : 1]++;
                case "lift" -> {
                    int at = state.find(state.here);
                    counts[at >= 0 ? 4 : 1]++;
                    if (at >= 0) {
                        state.pins.remove(at);
                    }
                }
                case "order" -> {
                    counts[1] += state.order == s.number ? 1 : 0;
                    state.order = s.number;
                }
                case "any" -> {
                    int turn = draw(2);
                    int luck = draw(16);
                    if (luck < state.odds) {
                        rise();
                    } else {
                        move(turn);
                    }
                }
                case "when" -> {
                    if (holds(s)) {
                        all(s.inner);
                    }
                }
                case "loop" -> {
                    for (int i = 0; i < s.number; i++) {
                        all(s.inner);
                    }
                }
                default -> throw new Stopped();
            }
        }

        private void move(int turn) {
            Frac to = child(state.here, turn);
            if (to.bottom > 9999) {
                counts[1]++;
            } else {
                counts[2]++;
                state.be(to);
            }
        }

        private void rise() {
            if (state.here.equals(new Frac(1, 2))) {
                counts[1]++;
            } else {
                counts[2]++;
                state.be(parentOf(state.here));
            }
        }

        private boolean holds(Step s) {
            if (s.test.equals("at")) {
                return state.here.equals(s.value);
            }
            if (s.test.equals("pinned")) {
                return state.find(state.here) >= 0;
            }
            long own = s.test.equals("depth") ? depthOf(state.here) : state.here.bottom;
            return s.compares == '<' ? own < s.number
                : s.compares == '>' ? own > s.number : own == s.number;
        }
    }

    long live(int seed) {
        need(seed >= 0 && seed <= 9999, 1);
        need(now.tours != null, 6);
        Life life = new Life(now, seed);
        life.run();
        lived = life.counts;
        return lived[0];
    }

    long lived(int what) {
        need(what >= 0 && what <= 4, 1);
        need(lived != null, 6);
        return lived[what + 1];
    }

    long mean(int seed, int many) {
        need(many >= 1 && many <= 20 && seed >= 0 && seed <= 9999 && seed + many - 1 <= 9999, 1);
        need(now.tours != null, 6);
        long sum = 0;
        for (int i = 0; i < many; i++) {
            State s = now.copy();
            new Life(s, seed + i).run();
            sum += depthOf(s.here);
        }
        return tell(Frac.of(sum, many));
    }

    // ---- marks

    long mark() {
        need(marks.size() < 3, 4);
        marks.add(now.copy());
        return marks.size();
    }

    long undo() {
        need(!marks.isEmpty(), 6);
        now = marks.remove(marks.size() - 1);
        return marks.size();
    }
}
