/**
 * Farey fractions by rank, a walker in the tree of fractions, pinned fractions with weights,
 * and tours of the walker told as a text.
 *
 * <p>Every row is made in the constructor and used again, so that no call makes an object.
 */
public final class FareyRank {
    public static final int NONE = -1;

    private static final int BAD_NUMBER = 1;
    private static final int MISSING = 2;
    private static final int NO_PLACE = 3;
    private static final int ONE_TOO_MANY = 4;
    private static final int BAD_IN_TRAY = 5;
    private static final int NO_SUCH = 6;
    private static final int CANNOT_BE = 7;
    private static final int UNLIKE_SORTS = 8;
    private static final int FAULTY = 9;

    private static final int LEFT = 0;
    private static final int RIGHT = 1;

    private static final int BOTTOM_MOST = 9_999;
    private static final int ORDER_MOST = 200;
    private static final int ORDER_WITHOUT = 5;
    private static final int ODDS_MOST = 16;
    private static final int ODDS_WITHOUT = 4;
    private static final int PINS_MOST = 12;
    private static final int WEIGHT_MOST = 99;
    private static final int WEIGHT_SUM_MOST = 999;
    private static final int VISITS_MOST = 200;
    private static final int TAPE_MOST = 900;
    private static final int TOURS_MOST = 300;
    private static final int MARKS_MOST = 3;
    private static final int TURNS_OF_FOLLOW = 20;
    private static final int TURNS_OF_GAME = 10;
    private static final int TURNS_OF_ODDS = 12;
    private static final int SEED_MOST = 9_999;
    private static final int SEEDS_AT_ONCE = 20;
    private static final int DIGIT_MOST = 9_999;
    private static final int SHIFT_MOST = 60;
    private static final long HALVES_MOST = 1L << 53;

    private int latestStatus;
    private long toldTop;
    private long toldBottom;
    private final Trays trays;
    private final Parser parser;
    private int faultKind;
    private int faultPlace;
    private final Row row;
    private final Chain chain;
    private final Chain otherChain;
    private final Spot spot;
    private final Board board;
    private final Board spare;
    private final Board[] marks;
    private int marked;
    private final Walk walk;
    private final Walk trial;
    private boolean everLived;

    public FareyRank() {
        latestStatus = 0;
        toldTop = 0;
        toldBottom = 1;
        trays = new Trays();
        parser = new Parser();
        faultKind = NONE;
        faultPlace = NONE;
        row = new Row();
        chain = new Chain();
        otherChain = new Chain();
        spot = new Spot();
        board = new Board();
        spare = new Board();
        marks = new Board[MARKS_MOST];
        for (int i = 0; i < MARKS_MOST; i++) {
            marks[i] = new Board();
        }
        marked = 0;
        walk = new Walk();
        trial = new Walk();
        everLived = false;
    }

    public int status() {
        return latestStatus;
    }

    public long top() {
        return toldTop;
    }

    public long bottom() {
        return toldBottom;
    }

    // ---- TRAYS

    public boolean tray(int tray, int sort, int many) {
        if (!trays.isTray(tray) || !trays.isSort(sort) || many < 0 || many > Trays.PLACES) {
            return refuse(BAD_NUMBER);
        }
        trays.lay(tray, sort, many);
        return accept();
    }

    public boolean write(int tray, int place, long v) {
        int why = whyNoPlace(tray, place);
        if (why != 0) {
            return refuse(why);
        }
        trays.put(tray, place, v);
        return accept();
    }

    public long read(int tray, int place) {
        int why = whyNoPlace(tray, place);
        if (why != 0) {
            return none(why);
        }
        latestStatus = 0;
        return trays.look(tray, place);
    }

    public boolean pour(int from, int place, int to, int at, int many) {
        if (!trays.isTray(from) || !trays.isTray(to) || place < 0 || at < 0 || many < 0) {
            return refuse(BAD_NUMBER);
        }
        if (trays.isMissing(from) || trays.isMissing(to)) {
            return refuse(MISSING);
        }
        if (trays.sortOf(from) != trays.sortOf(to)) {
            return refuse(UNLIKE_SORTS);
        }
        if (!trays.hasRoom(from, place, many) || !trays.hasRoom(to, at, many)) {
            return refuse(NO_PLACE);
        }
        trays.move(from, place, to, at, many);
        return accept();
    }

    private int whyNoPlace(int tray, int place) {
        if (!trays.isTray(tray)) {
            return BAD_NUMBER;
        }
        if (trays.isMissing(tray)) {
            return MISSING;
        }
        return place < 0 || !trays.hasRoom(tray, place, 1) ? NO_PLACE : 0;
    }

    // ---- texts

    public int feed(int a, int b, int c, int d, int e) {
        Tape tape = parser.tape;
        if (tape.taped + 20 > TAPE_MOST) {
            return NONE;
        }
        tape.takeInt(a);
        tape.takeInt(b);
        tape.takeInt(c);
        tape.takeInt(d);
        tape.takeInt(e);
        return tape.taped;
    }

    public int study(int n) {
        if (n < 0 || n > parser.tape.taped) {
            return none(BAD_NUMBER);
        }
        boolean taken = parser.readStudy(spare, n);
        noteFault();
        if (!taken) {
            return none(FAULTY);
        }
        board.copyFrom(spare);
        return give(board.pins.many);
    }

    public int tours(int n) {
        if (n < 0 || n > parser.tape.taped || n > TOURS_MOST) {
            return none(BAD_NUMBER);
        }
        boolean taken = parser.readTours(spare.program, n);
        noteFault();
        if (!taken) {
            return none(FAULTY);
        }
        board.program.copyFrom(spare.program);
        return give(board.program.steps);
    }

    private void noteFault() {
        parser.tape.taped = 0;
        faultKind = parser.tape.faultKind;
        faultPlace = parser.tape.faultPlace;
    }

    public int fault(int what) {
        if (what == 0) {
            return faultKind;
        }
        return what == 1 ? faultPlace : NONE;
    }

    public int told(int what) {
        switch (what) {
            case 0: return give(board.order);
            case 1: return give(board.odds);
            case 2: return give(board.pins.many);
            case 3: return give(board.pins.weightOfAll());
            case 4: return give(row.valuesOf(board.order));
            case 5: return give(board.visits.many);
            case 6: return give(board.walker.deep);
            default: return none(BAD_NUMBER);
        }
    }

    // ---- the row

    public int size(int order) {
        if (order < 1 || order > ORDER_MOST) {
            return none(BAD_NUMBER);
        }
        return give(row.valuesOf(order));
    }

    public boolean fraction(int k) {
        if (k < 0) {
            return refuse(BAD_NUMBER);
        }
        if (k >= row.valuesOf(board.order)) {
            return refuse(NO_SUCH);
        }
        row.seek(board.order, k);
        return tell(row.lowTop, row.lowBottom);
    }

    public int place(int top, int bottom) {
        if (!chain.take(top, bottom)) {
            return none(BAD_NUMBER);
        }
        if (chain.bottom > board.order) {
            return none(NO_SUCH);
        }
        return give(row.countUnder(board.order, chain.top, chain.bottom));
    }

    public int rank(int top, int bottom) {
        if (!chain.take(top, bottom)) {
            return none(BAD_NUMBER);
        }
        return give(row.countUnder(board.order, chain.top, chain.bottom));
    }

    public int below(long m, int e) {
        if (m < 0 || m > HALVES_MOST || e < -SHIFT_MOST || e > 0) {
            return none(BAD_NUMBER);
        }
        long whole = 1L << -e;
        if (m > whole) {
            return none(BAD_NUMBER);
        }
        return give(row.countUnder(board.order, m, whole));
    }

    public boolean above(int top, int bottom) {
        if (!chain.take(top, bottom)) {
            return refuse(BAD_NUMBER);
        }
        if (chain.top == chain.bottom) {
            return refuse(NO_SUCH);
        }
        row.pinch(board.order, chain.top, chain.bottom, true);
        return tell(row.highTop, row.highBottom);
    }

    public boolean ahead(int top, int bottom) {
        if (!chain.take(top, bottom)) {
            return refuse(BAD_NUMBER);
        }
        if (chain.top == 0) {
            return refuse(NO_SUCH);
        }
        row.pinch(board.order, chain.top, chain.bottom, false);
        return tell(row.lowTop, row.lowBottom);
    }

    public boolean nearest(int top, int bottom) {
        if (!chain.take(top, bottom)) {
            return refuse(BAD_NUMBER);
        }
        if (chain.bottom <= board.order) {
            return tell(chain.top, chain.bottom);
        }
        row.pinch(board.order, chain.top, chain.bottom, false);
        long toLow = cross(chain.top, chain.bottom, row.lowTop, row.lowBottom) * row.highBottom;
        long toHigh = cross(row.highTop, row.highBottom, chain.top, chain.bottom) * row.lowBottom;
        return toLow <= toHigh
            ? tell(row.lowTop, row.lowBottom)
            : tell(row.highTop, row.highBottom);
    }

    public int between(int top, int bottom, int other, int by) {
        if (!takeRising(top, bottom, other, by)) {
            return none(BAD_NUMBER);
        }
        if (chain.isAlike(otherChain)) {
            return give(0);
        }
        int upToLesser = row.countUnder(board.order, chain.top, chain.bottom);
        if (chain.bottom <= board.order) {
            upToLesser++;
        }
        return give(row.countUnder(board.order, otherChain.top, otherChain.bottom) - upToLesser);
    }

    public int coprimes(int a, int b) {
        if (a < 0 || a > ORDER_MOST || b < 0 || b > ORDER_MOST) {
            return none(BAD_NUMBER);
        }
        return give(row.pairs(a, b));
    }

    public boolean simplest(int top, int bottom, int other, int by) {
        if (!takeRising(top, bottom, other, by)) {
            return refuse(BAD_NUMBER);
        }
        if (chain.isAlike(otherChain)) {
            return refuse(CANNOT_BE);
        }
        spot.squeeze(chain, otherChain);
        return tell(spot.ownTop(), spot.ownBottom());
    }

    public int wide(int top, int bottom, int other, int by) {
        if (!takeRising(top, bottom, other, by)) {
            return none(BAD_NUMBER);
        }
        return give((int) cross(otherChain.top, otherChain.bottom, chain.top, chain.bottom));
    }

    /** Two VALUES come to chain and otherChain, the lesser one to chain; false if one is none. */
    private boolean takeRising(int top, int bottom, int other, int by) {
        if (!isValue(top, bottom) || !isValue(other, by)) {
            return false;
        }
        boolean risen = cross(top, bottom, other, by) <= 0;
        chain.unfold(risen ? top : other, risen ? bottom : by);
        otherChain.unfold(risen ? other : top, risen ? by : bottom);
        return true;
    }

    // ---- the tree

    public int depth(int top, int bottom) {
        int why = whyNotOfTree(top, bottom);
        return why != 0 ? none(why) : give(chain.turns());
    }

    public int turnAt(int top, int bottom, int k) {
        if (k < 0) {
            return none(BAD_NUMBER);
        }
        int why = whyNotOfTree(top, bottom);
        if (why != 0) {
            return none(why);
        }
        return k >= chain.turns() ? none(NO_SUCH) : give(chain.turnOf(k));
    }

    public boolean parent(int top, int bottom) {
        int why = whyNotOfTree(top, bottom);
        if (why != 0) {
            return refuse(why);
        }
        spot.standOn(chain);
        return spot.climb() ? tell(spot.ownTop(), spot.ownBottom()) : refuse(NO_SUCH);
    }

    public boolean follow(int tray, int n) {
        if (!trays.isTray(tray) || n < 0 || n > TURNS_OF_FOLLOW) {
            return refuse(BAD_NUMBER);
        }
        if (trays.isMissing(tray)) {
            return refuse(MISSING);
        }
        if (!trays.hasRoom(tray, 0, n)) {
            return refuse(NO_PLACE);
        }
        spot.toRoot();
        for (int i = 0; i < n; i++) {
            long turn = trays.look(tray, i);
            if (turn != LEFT && turn != RIGHT) {
                return refuse(BAD_IN_TRAY);
            }
            spot.descend((int) turn);
        }
        return tell(spot.ownTop(), spot.ownBottom());
    }

    public int terms(int top, int bottom) {
        return chain.take(top, bottom) ? give(chain.many) : none(BAD_NUMBER);
    }

    public int termAt(int top, int bottom, int k) {
        if (k < 0 || !chain.take(top, bottom)) {
            return none(BAD_NUMBER);
        }
        return k >= chain.many ? none(NO_SUCH) : give(chain.termOf(k));
    }

    public int digits(int top, int bottom, int what) {
        if (what < 0 || what > 1 || !chain.take(top, bottom)) {
            return none(BAD_NUMBER);
        }
        int twos = timesWithin(2, chain.bottom);
        int fives = timesWithin(5, chain.bottom);
        if (what == 0) {
            return give(Math.max(twos, fives));
        }
        return give(periodOf(without(5, fives, without(2, twos, chain.bottom))));
    }

    public int digitAt(int top, int bottom, int k) {
        if (k < 0 || k > DIGIT_MOST || !chain.take(top, bottom)) {
            return none(BAD_NUMBER);
        }
        int rest = restOf(chain.top, k, chain.bottom);
        return give(chain.bottom < 1 ? 0 : rest * 10 / chain.bottom);
    }

    /** 0 if it is of the TREE (chain has it then), else the STATUS that says why not. */
    private int whyNotOfTree(int top, int bottom) {
        if (!chain.take(top, bottom)) {
            return BAD_NUMBER;
        }
        return chain.isOfTree() ? 0 : CANNOT_BE;
    }

    private static int timesWithin(int prime, int number) {
        int times = 0;
        int rest = number;
        while (times < 32 && prime > 1 && rest > 0 && rest % prime == 0) {
            rest /= prime;
            times++;
        }
        return times;
    }

    private static int without(int prime, int times, int number) {
        int rest = number;
        for (int i = 0; i < times; i++) {
            if (prime > 1) {
                rest /= prime;
            }
        }
        return rest;
    }

    /** The least power of 10 that leaves 1 by a number without 2 and 5; 0 for 1 itself. */
    private static int periodOf(int number) {
        if (number <= 1) {
            return 0;
        }
        int power = 1;
        int rest = 10 % number;
        while (power < BOTTOM_MOST && rest != 1) {
            rest = rest * 10 % number;
            power++;
        }
        return power;
    }

    /** What is left of top times 10 to the power, by bottom. */
    private static int restOf(int top, int power, int bottom) {
        if (bottom < 1) {
            return 0;
        }
        long rest = top % bottom;
        long square = 10 % bottom;
        for (int bit = 0; bit < 31; bit++) {
            if (((power >> bit) & 1) == 1) {
                rest = rest * square % bottom;
            }
            square = square * square % bottom;
        }
        return (int) rest;
    }

    // ---- the WALKER

    public boolean here() {
        return tell(board.walker.ownTop(), board.walker.ownBottom());
    }

    public int go(int turn) {
        if (turn != LEFT && turn != RIGHT) {
            return none(BAD_NUMBER);
        }
        return board.goDown(turn) ? give(board.walker.deep) : none(CANNOT_BE);
    }

    public int up() {
        return board.goUp() ? give(board.walker.deep) : none(NO_SUCH);
    }

    public int flip() {
        board.goAcross();
        return give(board.walker.deep);
    }

    public int jump(int top, int bottom) {
        int why = whyNotOfTree(top, bottom);
        if (why != 0) {
            return none(why);
        }
        board.goTo(chain);
        return give(board.walker.deep);
    }

    public int wasAt(int top, int bottom) {
        if (!chain.take(top, bottom)) {
            return none(BAD_NUMBER);
        }
        return give(board.visits.holds(chain.top, chain.bottom) ? 1 : 0);
    }

    public int rule(int what, int much) {
        boolean ofOrder = what == 0 && much >= 1 && much <= ORDER_MOST;
        boolean ofOdds = what == 1 && much >= 0 && much <= ODDS_MOST;
        if (!ofOrder && !ofOdds) {
            return none(BAD_NUMBER);
        }
        if (much == (ofOrder ? board.order : board.odds)) {
            return none(CANNOT_BE);
        }
        if (ofOrder) {
            board.order = much;
        } else {
            board.odds = much;
        }
        return give(row.valuesOf(board.order));
    }

    // ---- PINS

    public int pin(int top, int bottom, int weight) {
        if (weight < 1 || weight > WEIGHT_MOST || !chain.take(top, bottom)) {
            return none(BAD_NUMBER);
        }
        int why = board.pins.whyNotMore(chain.top, chain.bottom, weight);
        if (why != 0) {
            return none(why);
        }
        return give(board.pins.add(chain.top, chain.bottom, weight));
    }

    public int lift(int top, int bottom) {
        if (!chain.take(top, bottom)) {
            return none(BAD_NUMBER);
        }
        int at = board.pins.find(chain.top, chain.bottom);
        return at < 0 ? none(NO_SUCH) : give(board.pins.drop(at));
    }

    public int weight(int top, int bottom) {
        if (!chain.take(top, bottom)) {
            return none(BAD_NUMBER);
        }
        int at = board.pins.find(chain.top, chain.bottom);
        return at < 0 ? none(NO_SUCH) : give(board.pins.weights[at]);
    }

    public boolean pinAt(int k) {
        if (k < 0) {
            return refuse(BAD_NUMBER);
        }
        return tellPin(k);
    }

    public boolean risingAt(int k) {
        if (k < 0) {
            return refuse(BAD_NUMBER);
        }
        return tellPin(board.pins.rising(k));
    }

    public boolean heaviest() {
        return tellPin(board.pins.ofMostWeight());
    }

    public boolean middle() {
        return tellPin(board.pins.halfWay());
    }

    public boolean gap() {
        Pins pins = board.pins;
        int aheadTop = 0;
        int aheadBottom = 1;
        long widestTop = 0;
        long widestBottom = 1;
        for (int k = 0; k <= pins.many; k++) {
            int at = pins.rising(k);
            int nextTop = at < 0 ? 1 : pins.tops[at];
            int nextBottom = at < 0 ? 1 : pins.bottoms[at];
            long gapTop = cross(nextTop, nextBottom, aheadTop, aheadBottom);
            long gapBottom = (long) nextBottom * aheadBottom;
            if (gapTop * widestBottom > widestTop * gapBottom) {
                widestTop = gapTop;
                widestBottom = gapBottom;
            }
            aheadTop = nextTop;
            aheadBottom = nextBottom;
        }
        return tell(widestTop, widestBottom);
    }

    public boolean share(int top, int bottom) {
        if (!chain.take(top, bottom)) {
            return refuse(BAD_NUMBER);
        }
        if (board.pins.many == 0) {
            return refuse(NO_SUCH);
        }
        return tell(board.pins.weightUpTo(chain.top, chain.bottom), board.pins.weightOfAll());
    }

    public int pinsOfRow() {
        return give(board.pins.manyOfOrder(board.order));
    }

    public int copyPins(int tray) {
        if (!trays.isTray(tray)) {
            return none(BAD_NUMBER);
        }
        if (trays.isMissing(tray)) {
            return none(MISSING);
        }
        Pins pins = board.pins;
        if (!trays.hasRoom(tray, 0, 2 * pins.many)) {
            return none(NO_PLACE);
        }
        for (int i = 0; i < pins.many; i++) {
            trays.put(tray, i, pins.tops[i]);
            trays.put(tray, pins.many + i, pins.bottoms[i]);
        }
        return give(pins.many);
    }

    private boolean tellPin(int at) {
        Pins pins = board.pins;
        return at < 0 || at >= pins.many ? refuse(NO_SUCH) : tell(pins.tops[at], pins.bottoms[at]);
    }

    // ---- games, odds

    public int game(int top, int bottom, int n) {
        if (n < 0 || n > TURNS_OF_GAME) {
            return none(BAD_NUMBER);
        }
        int why = whyNotOfTree(top, bottom);
        if (why != 0) {
            return none(why);
        }
        spot.standOn(chain);
        return give(playOut(spot.lowBottom, spot.highBottom, n, true));
    }

    public int moveOf(int top, int bottom, int n) {
        if (n < 1 || n > TURNS_OF_GAME) {
            return none(BAD_NUMBER);
        }
        int why = whyNotOfTree(top, bottom);
        if (why != 0) {
            return none(why);
        }
        spot.standOn(chain);
        int own = spot.ownBottom();
        int byLeft = playOut(spot.lowBottom, own, n - 1, false);
        int byRight = playOut(own, spot.highBottom, n - 1, false);
        return give(byLeft >= byRight ? LEFT : RIGHT);
    }

    /** Only the bottoms of the two that it is between matter: its own is both together. */
    private static int playOut(int low, int high, int turns, boolean wantsGreat) {
        int own = low + high;
        if (turns <= 0) {
            return own;
        }
        int byLeft = playOut(low, own, turns - 1, !wantsGreat);
        int byRight = playOut(own, high, turns - 1, !wantsGreat);
        return wantsGreat ? Math.max(byLeft, byRight) : Math.min(byLeft, byRight);
    }

    public boolean wrong(int n, int k) {
        if (n < 0 || n > TURNS_OF_ODDS || k < 0 || k > TURNS_OF_ODDS) {
            return refuse(BAD_NUMBER);
        }
        long ways = 1;
        long sum = 0;
        for (int j = 0; j <= n; j++) {
            if (j >= k) {
                sum += ways * power(board.odds, j) * power(ODDS_MOST - board.odds, n - j);
            }
            ways = ways * (n - j) / (j + 1);
        }
        return tell(sum, power(ODDS_MOST, n));
    }

    private static long power(long base, int times) {
        long product = 1;
        for (int i = 0; i < times; i++) {
            product *= base;
        }
        return product;
    }

    public boolean part(int b) {
        if (b < 1 || b > ORDER_MOST) {
            return refuse(BAD_NUMBER);
        }
        return tell(row.valuesOf(Math.min(b, board.order)), row.valuesOf(board.order));
    }

    // ---- TOURS

    public int live(int seed) {
        if (seed < 0 || seed > SEED_MOST) {
            return none(BAD_NUMBER);
        }
        if (!board.program.given) {
            return none(NO_SUCH);
        }
        walk.tour(board, seed);
        everLived = true;
        return give(walk.done);
    }

    public int lived(int what) {
        if (what < 0 || what > 4) {
            return none(BAD_NUMBER);
        }
        if (!everLived) {
            return none(NO_SUCH);
        }
        switch (what) {
            case 0: return give(walk.missed);
            case 1: return give(walk.moved);
            case 2: return give(walk.pinned);
            case 3: return give(walk.lifted);
            default: return give(walk.cutShort ? 1 : 0);
        }
    }

    public boolean mean(int seed, int many) {
        if (seed < 0 || seed > SEED_MOST || many < 1 || many > SEEDS_AT_ONCE
            || seed + many - 1 > SEED_MOST) {
            return refuse(BAD_NUMBER);
        }
        if (!board.program.given) {
            return refuse(NO_SUCH);
        }
        long sum = 0;
        for (int i = 0; i < many; i++) {
            spare.copyFrom(board);
            trial.tour(spare, seed + i);
            sum += spare.walker.deep;
        }
        return tell(sum, many);
    }

    // ---- MARKS

    public int mark() {
        if (marked >= marks.length) {
            return none(ONE_TOO_MANY);
        }
        marks[marked].copyFrom(board);
        marked++;
        return give(marked);
    }

    public int undo() {
        if (marked < 1 || marked > marks.length) {
            return none(NO_SUCH);
        }
        marked--;
        board.copyFrom(marks[marked]);
        return give(marked);
    }

    // ---- answers

    private int give(int answer) {
        latestStatus = 0;
        return answer;
    }

    private int none(int why) {
        latestStatus = why;
        return NONE;
    }

    private boolean accept() {
        latestStatus = 0;
        return true;
    }

    private boolean refuse(int why) {
        latestStatus = why;
        return false;
    }

    /** The FRACTION is one, which need not be in lowest terms yet. */
    private boolean tell(long top, long bottom) {
        long common = divisorOf(top, bottom);
        if (common > 0) {
            toldTop = top / common;
            toldBottom = bottom / common;
        }
        return accept();
    }

    private static long divisorOf(long a, long b) {
        long high = a;
        long low = b;
        for (int i = 0; i < 200 && low != 0; i++) {
            long rest = high % low;
            high = low;
            low = rest;
        }
        return high;
    }

    private static boolean isValue(int top, int bottom) {
        return bottom >= 1 && bottom <= BOTTOM_MOST && top >= 0 && top <= bottom;
    }

    /** Above 0 if the first fraction is greater than the second one, below 0 if it is less. */
    private static long cross(int top, int bottom, int other, int by) {
        return (long) top * by - (long) other * bottom;
    }

    /** The four TRAYS. */
    private static final class Trays {
        static final int TRAYS = 4;
        static final int SORTS = 4;
        static final int PLACES = 60;
        static final int GONE = -1;

        private final long[][] rows = new long[TRAYS][PLACES];
        private final int[] sorts = new int[TRAYS];
        private final int[] lengths = new int[TRAYS];

        Trays() {
            for (int i = 0; i < TRAYS; i++) {
                lengths[i] = GONE;
            }
        }

        boolean isTray(int tray) {
            return tray >= 0 && tray < TRAYS;
        }

        boolean isSort(int sort) {
            return sort >= 0 && sort < SORTS;
        }

        boolean isMissing(int tray) {
            return !isTray(tray) || lengths[tray] == GONE;
        }

        int sortOf(int tray) {
            return isTray(tray) ? sorts[tray] : GONE;
        }

        boolean hasRoom(int tray, int place, int many) {
            return !isMissing(tray) && place >= 0 && many >= 0
                && (long) place + many <= lengths[tray];
        }

        void lay(int tray, int sort, int many) {
            if (!isTray(tray)) {
                return;
            }
            sorts[tray] = sort;
            lengths[tray] = many;
            for (int i = 0; i < PLACES; i++) {
                rows[tray][i] = 0;
            }
        }

        void put(int tray, int place, long number) {
            if (hasRoom(tray, place, 1)) {
                rows[tray][place] = cut(sorts[tray], number);
            }
        }

        long look(int tray, int place) {
            return hasRoom(tray, place, 1) ? rows[tray][place] : 0;
        }

        void move(int from, int place, int to, int at, int many) {
            if (hasRoom(from, place, many) && hasRoom(to, at, many)) {
                System.arraycopy(rows[from], place, rows[to], at, many);
            }
        }

        private static long cut(int sort, long number) {
            switch (sort) {
                case 0: return (byte) number;
                case 1: return (short) number;
                case 2: return (int) number;
                default: return number;
            }
        }
    }

    /** Counts and finds in the ROW of an ORDER. */
    private static final class Row {
        /** Sums of the Moebius function: they count fractions in lowest terms without a gcd. */
        private final int[] moebius = new int[ORDER_MOST + 1];
        private final int[] sums = new int[ORDER_MOST + 1];
        int lowTop;
        int lowBottom;
        int highTop;
        int highBottom;

        Row() {
            moebius[1] = 1;
            for (int d = 1; d <= ORDER_MOST; d++) {
                for (int m = 2 * d; m <= ORDER_MOST; m += d) {
                    moebius[m] -= moebius[d];
                }
                sums[d] = sums[d - 1] + moebius[d];
            }
        }

        int pairs(int a, int b) {
            int count = 0;
            for (int d = 1; d <= a && d <= b && d <= ORDER_MOST; d++) {
                count += moebius[d] * (a / d) * (b / d);
            }
            return count;
        }

        /** Each fraction in (0, 1] is one of two pairs, but for 1 by 1; 0 by 1 is one more. */
        int valuesOf(int order) {
            return 1 + (pairs(order, order) + 1) / 2;
        }

        /** How many of the row are below a number from 0 to 1. */
        int countUnder(int order, long top, long bottom) {
            if (top <= 0 || bottom <= 0) {
                return 0;
            }
            long count = 1;
            for (int k = 1; k <= order && k <= ORDER_MOST; k++) {
                long topsBelow = (top * k + bottom - 1) / bottom - 1;
                count += topsBelow * sums[Math.min(order / k, ORDER_MOST)];
            }
            return (int) count;
        }

        /**
         * Low and high become neighbours in the row with a VALUE between them: if it is of the
         * row itself, it is low (then it is below 1) or high (then it is above 0).
         */
        void pinch(int order, int top, int bottom, boolean alikeIsLow) {
            lowTop = 0;
            lowBottom = 1;
            highTop = 1;
            highBottom = 1;
            for (int i = 0; i < order && lowBottom + highBottom <= order; i++) {
                int nextTop = lowTop + highTop;
                int nextBottom = lowBottom + highBottom;
                long side = cross(nextTop, nextBottom, top, bottom);
                if (side < 0 || (side == 0 && alikeIsLow)) {
                    lowTop = nextTop;
                    lowBottom = nextBottom;
                } else {
                    highTop = nextTop;
                    highBottom = nextBottom;
                }
            }
        }

        /** Low becomes the k-th of the row, which has so many. */
        void seek(int order, int k) {
            int slice = sliceOf(order, k);
            if (slice >= order) {
                lowTop = 1;
                lowBottom = 1;
                return;
            }
            pinch(order, slice, order, true);
            int steps = k - countUnder(order, slice, order);
            for (int i = 0; i < steps; i++) {
                stepUp(order);
            }
        }

        /** The greatest j so that at most k of the row are below j by the order. */
        private int sliceOf(int order, int k) {
            int from = 0;
            int to = order;
            for (int i = 0; i < 32 && from < to; i++) {
                int half = (from + to + 1) / 2;
                if (countUnder(order, half, order) <= k) {
                    from = half;
                } else {
                    to = half - 1;
                }
            }
            return from;
        }

        private void stepUp(int order) {
            if (highBottom < 1) {
                return;
            }
            int times = (order + lowBottom) / highBottom;
            int nextTop = times * highTop - lowTop;
            int nextBottom = times * highBottom - lowBottom;
            lowTop = highTop;
            lowBottom = highBottom;
            highTop = nextTop;
            highBottom = nextBottom;
        }
    }

    /** A VALUE in lowest terms with its TERMS, and the fraction that all but the last tell. */
    private static final class Chain {
        /** More than any VALUE has: its bottom is at least a Fibonacci number of its TERMS. */
        private final int[] row = new int[32];
        int many;
        private int sum;
        int top = 0;
        int bottom = 1;
        int lastTop = 1;
        int lastBottom = 0;

        /** False if it is no VALUE; then all stays as it is. */
        boolean take(int ofTop, int ofBottom) {
            if (!isValue(ofTop, ofBottom)) {
                return false;
            }
            unfold(ofTop, ofBottom);
            return true;
        }

        void unfold(int ofTop, int ofBottom) {
            many = 0;
            sum = 0;
            lastTop = 0;
            lastBottom = 1;
            top = 1;
            bottom = 0;
            int high = ofTop;
            int low = ofBottom;
            while (many < row.length && low != 0) {
                int whole = high / low;
                int rest = high % low;
                high = low;
                low = rest;
                addTerm(whole);
            }
        }

        private void addTerm(int term) {
            if (many < row.length) {
                row[many] = term;
                many++;
            }
            sum += term;
            int nextTop = term * top + lastTop;
            int nextBottom = term * bottom + lastBottom;
            lastTop = top;
            lastBottom = bottom;
            top = nextTop;
            bottom = nextBottom;
        }

        boolean isOfTree() {
            return bottom > 1;
        }

        boolean isAlike(Chain other) {
            return top == other.top && bottom == other.bottom;
        }

        int termOf(int k) {
            return k >= 0 && k < many && k < row.length ? row[k] : 0;
        }

        /** The TERMS tell the turns from 1 by 1; of these the first and the last are not ours. */
        int turns() {
            return sum - 2;
        }

        int turnOf(int k) {
            int rest = k + 1;
            for (int i = 1; i < many; i++) {
                rest -= termOf(i);
                if (rest < 0) {
                    return i % 2 == 1 ? LEFT : RIGHT;
                }
            }
            return LEFT;
        }
    }

    /** A place in the TREE, held as the two that it is between: it is their MEDIANT. */
    private static final class Spot {
        int lowTop;
        int lowBottom;
        int highTop;
        int highBottom;
        int deep;

        Spot() {
            toRoot();
        }

        void toRoot() {
            lowTop = 0;
            lowBottom = 1;
            highTop = 1;
            highBottom = 1;
            deep = 0;
        }

        void copyFrom(Spot other) {
            lowTop = other.lowTop;
            lowBottom = other.lowBottom;
            highTop = other.highTop;
            highBottom = other.highBottom;
            deep = other.deep;
        }

        /** The last fraction of a chain is one of the two that it is between. */
        void standOn(Chain chain) {
            int restTop = chain.top - chain.lastTop;
            int restBottom = chain.bottom - chain.lastBottom;
            boolean lastIsLow = cross(chain.lastTop, chain.lastBottom, restTop, restBottom) < 0;
            lowTop = lastIsLow ? chain.lastTop : restTop;
            lowBottom = lastIsLow ? chain.lastBottom : restBottom;
            highTop = lastIsLow ? restTop : chain.lastTop;
            highBottom = lastIsLow ? restBottom : chain.lastBottom;
            deep = chain.turns();
        }

        int ownTop() {
            return lowTop + highTop;
        }

        int ownBottom() {
            return lowBottom + highBottom;
        }

        int bottomBehind(int turn) {
            return ownBottom() + (turn == LEFT ? lowBottom : highBottom);
        }

        void descend(int turn) {
            int ownTop = ownTop();
            int ownBottom = ownBottom();
            if (turn == LEFT) {
                highTop = ownTop;
                highBottom = ownBottom;
            } else {
                lowTop = ownTop;
                lowBottom = ownBottom;
            }
            deep++;
        }

        /** Of the two that it is between, that with the greater bottom was told later. */
        boolean climb() {
            if (deep == 0) {
                return false;
            }
            if (highBottom > lowBottom) {
                highTop -= lowTop;
                highBottom -= lowBottom;
            } else {
                lowTop -= highTop;
                lowBottom -= highBottom;
            }
            deep--;
            return true;
        }

        void mirror() {
            int formerTop = lowTop;
            int formerBottom = lowBottom;
            lowTop = highBottom - highTop;
            lowBottom = highBottom;
            highTop = formerBottom - formerTop;
            highBottom = formerBottom;
        }

        /**
         * Goes to the first of the TREE between two unlike VALUES: that is the SIMPLEST. Whole
         * runs of turns to one side are taken at once, so there are few rounds.
         */
        void squeeze(Chain lesser, Chain greater) {
            toRoot();
            for (int i = 0; i < 100; i++) {
                long tooLow = cross(lesser.top, lesser.bottom, lowTop, lowBottom);
                long byRight = cross(highTop, highBottom, lesser.top, lesser.bottom);
                if (byRight > 0) {
                    int times = (int) (tooLow / byRight);
                    lowTop += times * highTop;
                    lowBottom += times * highBottom;
                }
                if (cross(ownTop(), ownBottom(), greater.top, greater.bottom) < 0) {
                    return;
                }
                long tooHigh = cross(highTop, highBottom, greater.top, greater.bottom);
                long byLeft = cross(greater.top, greater.bottom, lowTop, lowBottom);
                if (byLeft > 0) {
                    int times = (int) (tooHigh / byLeft);
                    highTop += times * lowTop;
                    highBottom += times * lowBottom;
                }
                if (cross(ownTop(), ownBottom(), lesser.top, lesser.bottom) > 0) {
                    return;
                }
            }
        }
    }

    /** PINS as they were pinned, in lowest terms. */
    private static final class Pins {
        final int[] tops = new int[PINS_MOST];
        final int[] bottoms = new int[PINS_MOST];
        final int[] weights = new int[PINS_MOST];
        int many;

        void copyFrom(Pins other) {
            System.arraycopy(other.tops, 0, tops, 0, PINS_MOST);
            System.arraycopy(other.bottoms, 0, bottoms, 0, PINS_MOST);
            System.arraycopy(other.weights, 0, weights, 0, PINS_MOST);
            many = other.many;
        }

        int find(int top, int bottom) {
            for (int i = 0; i < many; i++) {
                if (tops[i] == top && bottoms[i] == bottom) {
                    return i;
                }
            }
            return NONE;
        }

        int whyNotMore(int top, int bottom, int weight) {
            int at = find(top, bottom);
            if (at < 0) {
                return many >= PINS_MOST ? ONE_TOO_MANY : 0;
            }
            return weights[at] + weight > WEIGHT_SUM_MOST ? CANNOT_BE : 0;
        }

        /** Its WEIGHT then. */
        int add(int top, int bottom, int weight) {
            int at = find(top, bottom);
            if (at >= 0) {
                weights[at] += weight;
                return weights[at];
            }
            if (many < PINS_MOST) {
                tops[many] = top;
                bottoms[many] = bottom;
                weights[many] = weight;
                many++;
            }
            return weight;
        }

        /** The WEIGHT that it had. */
        int drop(int at) {
            if (at < 0 || at >= many) {
                return 0;
            }
            int had = weights[at];
            for (int i = at; i + 1 < many; i++) {
                tops[i] = tops[i + 1];
                bottoms[i] = bottoms[i + 1];
                weights[i] = weights[i + 1];
            }
            many--;
            return had;
        }

        int weightOfAll() {
            return weightUpTo(1, 1);
        }

        int weightUpTo(int top, int bottom) {
            int sum = 0;
            for (int i = 0; i < many; i++) {
                if (cross(tops[i], bottoms[i], top, bottom) <= 0) {
                    sum += weights[i];
                }
            }
            return sum;
        }

        int manyOfOrder(int order) {
            int count = 0;
            for (int i = 0; i < many; i++) {
                if (bottoms[i] <= order) {
                    count++;
                }
            }
            return count;
        }

        /** The k-th, rising, is that above k others, as no two are alike; NONE without it. */
        int rising(int k) {
            for (int i = 0; i < many; i++) {
                if (manyBelow(i) == k) {
                    return i;
                }
            }
            return NONE;
        }

        private int manyBelow(int at) {
            int count = 0;
            for (int i = 0; i < many; i++) {
                if (isLess(i, at)) {
                    count++;
                }
            }
            return count;
        }

        private boolean isLess(int at, int other) {
            return cross(tops[at], bottoms[at], tops[other], bottoms[other]) < 0;
        }

        int ofMostWeight() {
            int best = NONE;
            for (int i = 0; i < many; i++) {
                if (best < 0 || weights[i] > weights[best]
                    || (weights[i] == weights[best] && isLess(i, best))) {
                    best = i;
                }
            }
            return best;
        }

        int halfWay() {
            int all = weightOfAll();
            int best = NONE;
            for (int i = 0; i < many; i++) {
                if (2 * weightUpTo(tops[i], bottoms[i]) >= all && (best < 0 || isLess(i, best))) {
                    best = i;
                }
            }
            return best;
        }
    }

    /** VISITED, held rising, so that one is found without a look at all. */
    private static final class Visits {
        private final int[] keys = new int[VISITS_MOST];
        int many;

        void copyFrom(Visits other) {
            System.arraycopy(other.keys, 0, keys, 0, VISITS_MOST);
            many = other.many;
        }

        void startAt(Spot spot) {
            many = 0;
            enter(spot);
        }

        void enter(Spot spot) {
            int key = keyOf(spot.ownTop(), spot.ownBottom());
            int at = placeOf(key);
            if (many >= VISITS_MOST || (at < many && keys[at] == key)) {
                return;
            }
            for (int i = many; i > at; i--) {
                keys[i] = keys[i - 1];
            }
            keys[at] = key;
            many++;
        }

        boolean holds(int top, int bottom) {
            int key = keyOf(top, bottom);
            int at = placeOf(key);
            return at < many && keys[at] == key;
        }

        private static int keyOf(int top, int bottom) {
            return top * (BOTTOM_MOST + 1) + bottom;
        }

        /** How many keys are below this one. */
        private int placeOf(int key) {
            int from = 0;
            int to = many;
            for (int i = 0; i < 32 && from < to; i++) {
                int half = (from + to) / 2;
                if (keys[half] < key) {
                    from = half + 1;
                } else {
                    to = half;
                }
            }
            return from;
        }
    }

    /** TOURS as lines: each STEP is one, and so is each end. */
    private static final class Program {
        static final int GO_LEFT = 0;
        static final int GO_RIGHT = 1;
        static final int GO_UP = 2;
        static final int FLIP = 3;
        static final int PIN = 4;
        static final int LIFT = 5;
        static final int ORDER = 6;
        static final int ANY = 7;
        static final int WHEN = 8;
        static final int LOOP = 9;
        static final int STOP = 10;
        static final int KINDS = 11;
        static final int END = 11;

        static final int TEST_AT = 0;
        static final int TEST_PINNED = 1;
        static final int TEST_DEPTH = 2;
        static final int TEST_BOTTOM = 3;

        static final int STEPS_MOST = 30;
        static final int LINES_MOST = 2 * STEPS_MOST;

        boolean given;
        int steps;
        int lines;
        final int[] kinds = new int[LINES_MOST];
        /** Of a when: its TEST. */
        final int[] tests = new int[LINES_MOST];
        /** The NUMBER; of a TEST its top, or its COMPARES. */
        final int[] firsts = new int[LINES_MOST];
        /** Of a TEST its bottom, or its NUMBER. */
        final int[] seconds = new int[LINES_MOST];
        /** Of a when, a loop: its end; of an end: where that begins. */
        final int[] mates = new int[LINES_MOST];

        void clear() {
            given = false;
            steps = 0;
            lines = 0;
        }

        void copyFrom(Program other) {
            given = other.given;
            steps = other.steps;
            lines = other.lines;
            System.arraycopy(other.kinds, 0, kinds, 0, LINES_MOST);
            System.arraycopy(other.tests, 0, tests, 0, LINES_MOST);
            System.arraycopy(other.firsts, 0, firsts, 0, LINES_MOST);
            System.arraycopy(other.seconds, 0, seconds, 0, LINES_MOST);
            System.arraycopy(other.mates, 0, mates, 0, LINES_MOST);
        }

        void addStep(int kind, int test, int first, int second) {
            if (lines < LINES_MOST) {
                kinds[lines] = kind;
                tests[lines] = test;
                firsts[lines] = first;
                seconds[lines] = second;
                mates[lines] = lines;
                lines++;
                steps++;
            }
        }

        void addEnd(int begin) {
            if (lines < LINES_MOST && begin >= 0 && begin < lines) {
                kinds[lines] = END;
                mates[lines] = begin;
                mates[begin] = lines;
                lines++;
            }
        }

        static String wordOf(int kind) {
            switch (kind) {
                case GO_LEFT: return "left";
                case GO_RIGHT: return "right";
                case GO_UP: return "up";
                case FLIP: return "flip";
                case PIN: return "pin";
                case LIFT: return "lift";
                case ORDER: return "order";
                case ANY: return "any";
                case WHEN: return "when";
                case LOOP: return "loop";
                case STOP: return "stop";
                default: return "end";
            }
        }
    }

    /** The STUDY with all that became of it, VISITED and the TOURS: what a MARK keeps. */
    private static final class Board {
        int order;
        int odds;
        final Spot walker = new Spot();
        final Pins pins = new Pins();
        final Visits visits = new Visits();
        final Program program = new Program();

        Board() {
            clear();
        }

        void clear() {
            order = ORDER_WITHOUT;
            odds = ODDS_WITHOUT;
            walker.toRoot();
            pins.many = 0;
            visits.startAt(walker);
            program.clear();
        }

        void copyFrom(Board other) {
            order = other.order;
            odds = other.odds;
            walker.copyFrom(other.walker);
            pins.copyFrom(other.pins);
            visits.copyFrom(other.visits);
            program.copyFrom(other.program);
        }

        boolean goDown(int turn) {
            if (walker.bottomBehind(turn) > BOTTOM_MOST) {
                return false;
            }
            walker.descend(turn);
            visits.enter(walker);
            return true;
        }

        boolean goUp() {
            if (!walker.climb()) {
                return false;
            }
            visits.enter(walker);
            return true;
        }

        void goAcross() {
            walker.mirror();
            visits.enter(walker);
        }

        void goTo(Chain chain) {
            walker.standOn(chain);
            visits.enter(walker);
        }

        int pinHere() {
            return pins.find(walker.ownTop(), walker.ownBottom());
        }
    }

    /** The tape, and the TOKENS of its text, one at a time, with the first FAULT in it. */
    private static final class Tape {
        static final int ENDED = 0;
        static final int WORD = 1;
        static final int NUMBER = 2;
        static final int SIGN = 3;
        static final int STRANGE = 4;
        static final int BLANK = 5;
        static final int DIGITS_MOST = 4;

        static final int FAULT_STRANGE = 1;
        static final int FAULT_MISPLACED = 2;
        static final int FAULT_NUMBER = 4;
        static final int FAULT_TWICE = 5;
        static final int FAULT_TOO_MANY = 6;
        static final int FAULT_TOO_DEEP = 7;

        private final char[] text = new char[TAPE_MOST];
        int taped;
        private int length;
        private int behind;
        private int kind;
        private int value;
        /** Where this TOKEN begins. */
        int at;
        /** The NUMBER that was passed latest, and where it was. */
        int number;
        int numberAt;
        int faultKind;
        int faultPlace;

        /** Its four bytes come behind those on the tape, the highest first. */
        void takeInt(int four) {
            for (int shift = 24; shift >= 0; shift -= 8) {
                if (taped >= 0 && taped < text.length) {
                    text[taped] = (char) ((four >>> shift) & 255);
                    taped++;
                }
            }
        }

        void start(int many) {
            length = Math.max(0, Math.min(many, text.length));
            behind = 0;
            faultKind = 0;
            faultPlace = NONE;
            advance();
        }

        /** A WORD, a NUMBER goes on as long as its letters, its digits do; others are one sign. */
        void advance() {
            at = behind;
            while (at < length && sortOfSign(text[at]) == BLANK) {
                at++;
            }
            behind = at;
            kind = at < length ? sortOfSign(text[at]) : ENDED;
            value = 0;
            boolean goesOn = at < length;
            while (goesOn && behind < length) {
                if (kind == NUMBER && behind - at < DIGITS_MOST) {
                    value = value * 10 + (text[behind] - '0');
                }
                behind++;
                goesOn = (kind == WORD || kind == NUMBER)
                    && behind < length && sortOfSign(text[behind]) == kind;
            }
            if (kind == NUMBER && behind - at > DIGITS_MOST) {
                kind = STRANGE;
            }
        }

        boolean isEnded() {
            return kind == ENDED;
        }

        boolean isWord(String word) {
            if (kind != WORD || behind - at != word.length()) {
                return false;
            }
            for (int i = 0; i < word.length(); i++) {
                if (at + i >= text.length || text[at + i] != word.charAt(i)) {
                    return false;
                }
            }
            return true;
        }

        boolean isThisSign(char sign) {
            return kind == SIGN && at < text.length && text[at] == sign;
        }

        /** False, for the calls below to hand on. */
        boolean fail(int why, int place) {
            faultKind = why;
            faultPlace = place;
            return false;
        }

        boolean failHere() {
            return fail(kind == STRANGE ? FAULT_STRANGE : FAULT_MISPLACED, at);
        }

        boolean passWord(String word) {
            if (!isWord(word)) {
                return failHere();
            }
            advance();
            return true;
        }

        boolean passSign(char sign) {
            if (!isThisSign(sign)) {
                return failHere();
            }
            advance();
            return true;
        }

        boolean passNumber(int least, int most) {
            if (kind != NUMBER) {
                return failHere();
            }
            if (value < least || value > most) {
                return fail(FAULT_NUMBER, at);
            }
            number = value;
            numberAt = at;
            advance();
            return true;
        }

        private static int sortOfSign(char c) {
            if (c >= 'a' && c <= 'z') {
                return WORD;
            }
            if (c >= '0' && c <= '9') {
                return NUMBER;
            }
            if (c == ';' || c == '<' || c == '>' || c == '=') {
                return SIGN;
            }
            return c == 10 || c == 32 ? BLANK : STRANGE;
        }
    }

    /** Reads a STUDY, or TOURS, from a text. */
    private static final class Parser {
        static final int NEST_MOST = 3;
        static final int ROUNDS_MOST = 99;

        final Tape tape = new Tape();
        private final Chain chain = new Chain();
        private boolean oddsTold;
        private boolean orderTold;
        private boolean hereTold;
        private final int[] begins = new int[NEST_MOST];
        private int open;
        private int test;
        private int first;
        private int second;

        boolean readStudy(Board into, int length) {
            into.clear();
            oddsTold = false;
            orderTold = false;
            hereTold = false;
            tape.start(length);
            for (int i = 0; i < length && !tape.isEnded(); i++) {
                if (!readPart(into)) {
                    return false;
                }
            }
            into.visits.startAt(into.walker);
            return true;
        }

        private boolean readPart(Board into) {
            if (tape.isWord("odds")) {
                return readOdds(into) && tape.passSign(';');
            }
            if (tape.isWord("order")) {
                return readOrder(into) && tape.passSign(';');
            }
            if (tape.isWord("here")) {
                return readHere(into) && tape.passSign(';');
            }
            if (tape.isWord("pin")) {
                return readPin(into) && tape.passSign(';');
            }
            return tape.failHere();
        }

        private boolean readOdds(Board into) {
            if (oddsTold) {
                return tape.fail(Tape.FAULT_TWICE, tape.at);
            }
            oddsTold = true;
            tape.advance();
            if (!tape.passNumber(0, ODDS_MOST)) {
                return false;
            }
            into.odds = tape.number;
            return true;
        }

        private boolean readOrder(Board into) {
            if (orderTold) {
                return tape.fail(Tape.FAULT_TWICE, tape.at);
            }
            orderTold = true;
            tape.advance();
            if (!tape.passNumber(1, ORDER_MOST)) {
                return false;
            }
            into.order = tape.number;
            return true;
        }

        private boolean readHere(Board into) {
            if (hereTold) {
                return tape.fail(Tape.FAULT_TWICE, tape.at);
            }
            hereTold = true;
            tape.advance();
            if (!readValue()) {
                return false;
            }
            if (!chain.isOfTree()) {
                return tape.fail(Tape.FAULT_NUMBER, tape.numberAt);
            }
            into.walker.standOn(chain);
            return true;
        }

        private boolean readPin(Board into) {
            if (into.pins.many >= PINS_MOST) {
                return tape.fail(Tape.FAULT_TOO_MANY, tape.at);
            }
            tape.advance();
            if (!readValue()) {
                return false;
            }
            if (into.pins.find(chain.top, chain.bottom) >= 0) {
                return tape.fail(Tape.FAULT_TWICE, tape.numberAt);
            }
            int weight = 1;
            if (tape.isWord("weight")) {
                tape.advance();
                if (!tape.passNumber(1, WEIGHT_MOST)) {
                    return false;
                }
                weight = tape.number;
            }
            into.pins.add(chain.top, chain.bottom, weight);
            return true;
        }

        /** NUMBER by NUMBER, which comes to the chain. */
        private boolean readValue() {
            if (!tape.passNumber(0, BOTTOM_MOST)) {
                return false;
            }
            int top = tape.number;
            if (!tape.passWord("by") || !tape.passNumber(Math.max(1, top), BOTTOM_MOST)) {
                return false;
            }
            chain.unfold(top, tape.number);
            return true;
        }

        boolean readTours(Program into, int length) {
            into.clear();
            open = 0;
            tape.start(length);
            for (int i = 0; i < length && !tape.isEnded(); i++) {
                boolean closes = open > 0 && tape.isWord("end");
                if (!(closes ? readEnd(into) : readStep(into))) {
                    return false;
                }
            }
            if (open > 0) {
                return tape.failHere();
            }
            into.given = true;
            return true;
        }

        private boolean readEnd(Program into) {
            tape.advance();
            if (!tape.passSign(';')) {
                return false;
            }
            if (open > 0 && open <= NEST_MOST) {
                open--;
                into.addEnd(begins[open]);
            }
            return true;
        }

        private boolean readStep(Program into) {
            int kind = kindHere();
            if (kind < 0) {
                return tape.failHere();
            }
            boolean nests = kind == Program.WHEN || kind == Program.LOOP;
            if (into.steps >= Program.STEPS_MOST) {
                return tape.fail(Tape.FAULT_TOO_MANY, tape.at);
            }
            if (nests && open >= NEST_MOST) {
                return tape.fail(Tape.FAULT_TOO_DEEP, tape.at);
            }
            tape.advance();
            test = 0;
            first = 0;
            second = 0;
            boolean taken = kind == Program.WHEN ? readTest() : readFirst(mostOf(kind));
            if (!taken || !tape.passSign(';')) {
                return false;
            }
            if (nests) {
                begins[open] = into.lines;
                open++;
            }
            into.addStep(kind, test, first, second);
            return true;
        }

        private int kindHere() {
            for (int kind = 0; kind < Program.KINDS; kind++) {
                if (tape.isWord(Program.wordOf(kind))) {
                    return kind;
                }
            }
            return NONE;
        }

        /** The greatest NUMBER of a STEP; 0 if it has none. */
        private static int mostOf(int kind) {
            switch (kind) {
                case Program.PIN: return WEIGHT_MOST;
                case Program.ORDER: return ORDER_MOST;
                case Program.LOOP: return ROUNDS_MOST;
                default: return 0;
            }
        }

        private boolean readFirst(int most) {
            if (most == 0) {
                return true;
            }
            if (!tape.passNumber(1, most)) {
                return false;
            }
            first = tape.number;
            return true;
        }

        private boolean readTest() {
            if (tape.isWord("at")) {
                test = Program.TEST_AT;
                tape.advance();
                if (!readValue()) {
                    return false;
                }
                first = chain.top;
                second = chain.bottom;
                return true;
            }
            if (tape.isWord("pinned")) {
                test = Program.TEST_PINNED;
                tape.advance();
                return true;
            }
            if (tape.isWord("depth") || tape.isWord("bottom")) {
                test = tape.isWord("depth") ? Program.TEST_DEPTH : Program.TEST_BOTTOM;
                tape.advance();
                return readCompare();
            }
            return tape.failHere();
        }

        private boolean readCompare() {
            first = '=';
            if (tape.isThisSign('<')) {
                first = '<';
            } else if (tape.isThisSign('>')) {
                first = '>';
            }
            if (!tape.passSign((char) first) || !tape.passNumber(0, BOTTOM_MOST)) {
                return false;
            }
            second = tape.number;
            return true;
        }
    }

    /** The WALKER on its TOURS, and what is told of that. */
    private static final class Walk {
        static final int STEPS_MOST = 300;
        /** Far above the STEPS and their ends, as the end of an empty loop is not come to. */
        static final int LINES_DONE_MOST = 100_000;

        int done;
        int missed;
        int moved;
        int pinned;
        int lifted;
        boolean cutShort;
        private int drawn;
        /** How often the loop that begins in a line is still to be gone through. */
        private final int[] rounds = new int[Program.LINES_MOST];

        void tour(Board board, int seed) {
            done = 0;
            missed = 0;
            moved = 0;
            pinned = 0;
            lifted = 0;
            cutShort = false;
            drawn = seed;
            Program program = board.program;
            int line = 0;
            for (int i = 0; i < LINES_DONE_MOST && line >= 0 && line < program.lines; i++) {
                if (program.kinds[line] == Program.END) {
                    line = lineBehindEnd(program, line);
                } else if (done >= STEPS_MOST) {
                    cutShort = true;
                    return;
                } else {
                    done++;
                    line = lineBehindStep(board, line);
                }
            }
        }

        private int lineBehindEnd(Program program, int line) {
            int begin = program.mates[line];
            if (begin < 0 || begin >= rounds.length || program.kinds[begin] != Program.LOOP) {
                return line + 1;
            }
            rounds[begin]--;
            return rounds[begin] > 0 ? begin + 1 : line + 1;
        }

        private int lineBehindStep(Board board, int line) {
            Program program = board.program;
            switch (program.kinds[line]) {
                case Program.WHEN:
                    return holds(board, line) ? line + 1 : program.mates[line] + 1;
                case Program.LOOP:
                    rounds[line] = program.firsts[line];
                    return program.mates[line] == line + 1 ? line + 2 : line + 1;
                case Program.STOP:
                    return program.lines;
                default:
                    if (!act(board, program.kinds[line], program.firsts[line])) {
                        missed++;
                    }
                    return line + 1;
            }
        }

        private static boolean holds(Board board, int line) {
            Program program = board.program;
            int first = program.firsts[line];
            int second = program.seconds[line];
            Spot walker = board.walker;
            switch (program.tests[line]) {
                case Program.TEST_AT:
                    return walker.ownTop() == first && walker.ownBottom() == second;
                case Program.TEST_PINNED:
                    return board.pinHere() >= 0;
                case Program.TEST_DEPTH:
                    return compares(walker.deep, first, second);
                default:
                    return compares(walker.ownBottom(), first, second);
            }
        }

        private static boolean compares(int own, int sign, int number) {
            if (sign == '<') {
                return own < number;
            }
            return sign == '>' ? own > number : own == number;
        }

        /** False if it is MISSED. */
        private boolean act(Board board, int kind, int number) {
            switch (kind) {
                case Program.GO_LEFT: return moves(board.goDown(LEFT));
                case Program.GO_RIGHT: return moves(board.goDown(RIGHT));
                case Program.GO_UP: return moves(board.goUp());
                case Program.FLIP: board.goAcross(); return true;
                case Program.PIN: return pins(board, number);
                case Program.LIFT: return lifts(board);
                case Program.ORDER: return orders(board, number);
                default: return wanders(board);
            }
        }

        private boolean moves(boolean could) {
            if (could) {
                moved++;
            }
            return could;
        }

        private boolean pins(Board board, int weight) {
            int top = board.walker.ownTop();
            int bottom = board.walker.ownBottom();
            if (board.pins.whyNotMore(top, bottom, weight) != 0) {
                return false;
            }
            board.pins.add(top, bottom, weight);
            pinned++;
            return true;
        }

        private boolean lifts(Board board) {
            int at = board.pinHere();
            if (at < 0) {
                return false;
            }
            board.pins.drop(at);
            lifted++;
            return true;
        }

        private static boolean orders(Board board, int order) {
            if (board.order == order) {
                return false;
            }
            board.order = order;
            return true;
        }

        private boolean wanders(Board board) {
            int turn = draw(2);
            boolean rises = draw(16) < board.odds;
            return moves(rises ? board.goUp() : board.goDown(turn));
        }

        private int draw(int by) {
            drawn = (drawn * 3_301 + 11_533) % 65_536;
            return by < 1 ? 0 : drawn / 8 % by;
        }
    }
}
