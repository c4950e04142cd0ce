/** Promises 14 to 25: the row. */
public final class RowTest {
    public static void main(String[] args) {
        sizes();
        fractionsAndPlaces();
        ranks();
        below();
        neighbours();
        between();
        coprimes();
        simplest();
        wide();
        Check.end();
    }

    private static FareyRank ofOrder(int order) {
        FareyRank x = new FareyRank();
        x.rule(0, order);
        return x;
    }

    private static void sizes() {
        FareyRank x = new FareyRank();
        for (int order = 1; order <= 200; order++) {
            Check.due(x, "size(" + order + ")", x.size(order), Model.rowOf(order).size(), 0);
        }
        Check.refused(x, "size(0)", x.size(0), 1);
        Check.refused(x, "size(-1)", x.size(-1), 1);
        Check.refused(x, "size(201)", x.size(201), 1);
        Check.due("told(0) behind size()", x.told(0), 5);
    }

    private static void fractionsAndPlaces() {
        for (int order : new int[] {1, 2, 3, 7, 30, 199, 200}) {
            FareyRank x = ofOrder(order);
            int k = 0;
            for (Model.Frac f : Model.rowOf(order)) {
                x = k % 50 == 0 ? ofOrder(order) : x;
                Check.tells(x, "fraction(" + k + ")", x.fraction(k), f.top(), f.bottom());
                int by = 9999 / (int) f.bottom();
                Check.due(x, "place of " + f, x.place((int) f.top(), (int) f.bottom()), k, 0);
                Check.due(x, "place of " + f + ", not in lowest terms",
                    x.place((int) f.top() * by, (int) f.bottom() * by), k, 0);
                k++;
            }
            Check.refused(x, "fraction(" + k + ")", x.fraction(k), 6);
            Check.refused(x, "fraction(MAX)", x.fraction(Integer.MAX_VALUE), 6);
            Check.refused(x, "fraction(-1)", x.fraction(-1), 1);
            Check.refused(x, "fraction(MIN)", x.fraction(Integer.MIN_VALUE), 1);
            Check.refused(x, "place beyond the order", x.place(1, order + 1), 6);
        }
        FareyRank x = new FareyRank();
        Check.refused(x, "place(1, 0)", x.place(1, 0), 1);
        Check.refused(x, "place(-1, 2)", x.place(-1, 2), 1);
        Check.refused(x, "place(3, 2)", x.place(3, 2), 1);
        Check.refused(x, "place(1, 10000)", x.place(1, 10_000), 1);
        Check.refused(x, "place(-1, -2)", x.place(-1, -2), 1);
    }

    private static void ranks() {
        FareyRank x = ofOrder(200);
        Check.due("rank(1, 1)", x.rank(1, 1), 12_232);
        Check.due("rank(9999, 9999)", x.rank(9999, 9999), 12_232);
        Check.due("rank(0, 5)", x.rank(0, 5), 0);
        Check.due("rank(1, 9999)", x.rank(1, 9999), 1);
        Check.due("rank(1, 200)", x.rank(1, 200), 1);
        Check.due("rank(1, 199)", x.rank(1, 199), 2);
        Check.due("rank(1, 2)", x.rank(1, 2), 6116);
        Check.due("rank(5001, 9999)", x.rank(5001, 9999), 6117);
        Check.refused(x, "rank(2, 1)", x.rank(2, 1), 1);
        Check.refused(x, "rank(1, -1)", x.rank(1, -1), 1);
        Check.refused(x, "rank(0, 10000)", x.rank(0, 10_000), 1);
    }

    private static void below() {
        FareyRank x = ofOrder(200);
        long most = 1L << 53;
        Check.due(x, "below(0, -60)", x.below(0, -60), 0, 0);
        Check.due(x, "below(0, 0)", x.below(0, 0), 0, 0);
        Check.due(x, "below(1, 0)", x.below(1, 0), 12_232, 0);
        Check.due(x, "below(2^53, -53)", x.below(most, -53), 12_232, 0);
        Check.due(x, "below(2^53 - 1, -53)", x.below(most - 1, -53), 12_232, 0);
        Check.due(x, "below(2^52, -53)", x.below(most / 2, -53), 6116, 0);
        Check.due(x, "below(2^52 + 1, -53)", x.below(most / 2 + 1, -53), 6117, 0);
        Check.due(x, "below(2^53, -60)", x.below(most, -60), x.rank(1, 128), 0);
        Check.due(x, "below(1, -60)", x.below(1, -60), 1, 0);
        Check.due(x, "below(1, -7)", x.below(1, -7), x.rank(1, 128), 0);
        Check.refused(x, "below(2^53 + 1, -60)", x.below(most + 1, -60), 1);
        Check.refused(x, "below(-1, -60)", x.below(-1, -60), 1);
        Check.refused(x, "below(MAX, -60)", x.below(Long.MAX_VALUE, -60), 1);
        Check.refused(x, "below(1, 1)", x.below(1, 1), 1);
        Check.refused(x, "below(0, 1)", x.below(0, 1), 1);
        Check.refused(x, "below(0, -61)", x.below(0, -61), 1);
        Check.refused(x, "below(0, MIN)", x.below(0, Integer.MIN_VALUE), 1);
        Check.refused(x, "below(2^53, -52)", x.below(most, -52), 1);
        Check.refused(x, "below(3, -1)", x.below(3, -1), 1);
    }

    private static void neighbours() {
        FareyRank x = ofOrder(7);
        Check.tells(x, "above(0, 1)", x.above(0, 1), 1, 7);
        Check.tells(x, "above(1, 2)", x.above(1, 2), 4, 7);
        Check.tells(x, "above(2, 4)", x.above(2, 4), 4, 7);
        Check.tells(x, "above(1, 9999)", x.above(1, 9999), 1, 7);
        Check.tells(x, "above(6, 7)", x.above(6, 7), 1, 1);
        Check.tells(x, "above(9998, 9999)", x.above(9998, 9999), 1, 1);
        Check.refused(x, "above(1, 1)", x.above(1, 1), 6);
        Check.refused(x, "above(5, 5)", x.above(5, 5), 6);
        Check.refused(x, "above(5, 4)", x.above(5, 4), 1);
        Check.tells(x, "ahead(1, 1)", x.ahead(1, 1), 6, 7);
        Check.tells(x, "ahead(1, 2)", x.ahead(1, 2), 3, 7);
        Check.tells(x, "ahead(1, 7)", x.ahead(1, 7), 0, 1);
        Check.tells(x, "ahead(1, 9999)", x.ahead(1, 9999), 0, 1);
        Check.refused(x, "ahead(0, 9)", x.ahead(0, 9), 6);
        Check.refused(x, "ahead(0, 0)", x.ahead(0, 0), 1);
        Check.tells(x, "nearest(0, 3)", x.nearest(0, 3), 0, 1);
        Check.tells(x, "nearest(1, 14), of two the lesser", x.nearest(1, 14), 0, 1);
        Check.tells(x, "nearest(13, 14), of two the lesser", x.nearest(13, 14), 6, 7);
        Check.tells(x, "nearest(1, 13)", x.nearest(1, 13), 1, 7);
        Check.tells(x, "nearest(1, 15)", x.nearest(1, 15), 0, 1);
        Check.tells(x, "nearest(6, 12)", x.nearest(6, 12), 1, 2);
        Check.tells(x, "nearest(9999, 9999)", x.nearest(9999, 9999), 1, 1);
        Check.refused(x, "nearest(-1, 3)", x.nearest(-1, 3), 1);
        FareyRank one = ofOrder(1);
        Check.tells(one, "above(1, 3) of two", one.above(1, 3), 1, 1);
        Check.tells(one, "ahead(1, 3) of two", one.ahead(1, 3), 0, 1);
        Check.tells(one, "nearest(1, 2) of two", one.nearest(1, 2), 0, 1);
        Check.tells(one, "nearest(5000, 9999) of two", one.nearest(5000, 9999), 1, 1);
    }

    private static void between() {
        FareyRank x = ofOrder(200);
        Check.due("between(0, 1, 1, 1)", x.between(0, 1, 1, 1), 12_231);
        Check.due("between(1, 1, 0, 1)", x.between(1, 1, 0, 1), 12_231);
        Check.due("between(1, 2, 50, 100)", x.between(1, 2, 50, 100), 0);
        Check.due("between(1, 9999, 2, 9999)", x.between(1, 9999, 2, 9999), 0);
        Check.due("between(1, 200, 1, 198)", x.between(1, 200, 1, 198), 1);
        Check.due("between(1, 201, 1, 198)", x.between(1, 201, 1, 198), 2);
        Check.due("between(99, 198, 1, 0)", x.between(99, 198, 1, 0), -1);
        Check.refused(x, "between(2, 1, 1, 2)", x.between(2, 1, 1, 2), 1);
        Check.refused(x, "between(1, 2, 2, 1)", x.between(1, 2, 2, 1), 1);
    }

    private static void coprimes() {
        FareyRank x = new FareyRank();
        Check.due("coprimes(0, 0)", x.coprimes(0, 0), 0);
        Check.due("coprimes(200, 0)", x.coprimes(200, 0), 0);
        Check.due("coprimes(1, 1)", x.coprimes(1, 1), 1);
        Check.due("coprimes(200, 200)", x.coprimes(200, 200), 24_463);
        Model model = new Model();
        int[][] corners = {{6, 4}, {4, 6}, {30, 200}, {200, 31}, {199, 198}, {2, 200}, {36, 36}};
        for (int[] c : corners) {
            Check.due("coprimes(" + c[0] + ", " + c[1] + ")", x.coprimes(c[0], c[1]),
                model.coprimes(c[0], c[1]));
        }
        Check.refused(x, "coprimes(201, 0)", x.coprimes(201, 0), 1);
        Check.refused(x, "coprimes(0, 201)", x.coprimes(0, 201), 1);
        Check.refused(x, "coprimes(-1, 5)", x.coprimes(-1, 5), 1);
        Check.refused(x, "coprimes(5, -1)", x.coprimes(5, -1), 1);
    }

    private static void simplest() {
        FareyRank x = new FareyRank();
        Check.tells(x, "simplest of 0 and 1", x.simplest(0, 1, 1, 1), 1, 2);
        Check.tells(x, "simplest of 1 and 0", x.simplest(1, 1, 0, 1), 1, 2);
        Check.tells(x, "simplest(0, 1, 1, 2)", x.simplest(0, 1, 1, 2), 1, 3);
        Check.tells(x, "simplest(3, 10, 2, 5)", x.simplest(3, 10, 2, 5), 1, 3);
        Check.tells(x, "simplest(1, 3, 2, 5)", x.simplest(1, 3, 2, 5), 3, 8);
        Check.tells(x, "simplest(9998, 9999, 9997, 9998)", x.simplest(9998, 9999, 9997, 9998),
            19_995, 19_997);
        Check.tells(x, "simplest(1, 9999, 1, 9998)", x.simplest(1, 9999, 1, 9998), 2, 19_997);
        Check.tells(x, "simplest(1, 9999, 0, 1)", x.simplest(1, 9999, 0, 1), 1, 10_000);
        Check.tells(x, "simplest of 4181/6765 and 2584/4181",
            x.simplest(4181, 6765, 2584, 4181), 6765, 10_946);
        Check.refused(x, "simplest(1, 2, 4, 8)", x.simplest(1, 2, 4, 8), 7);
        Check.refused(x, "simplest(0, 2, 0, 8)", x.simplest(0, 2, 0, 8), 7);
        Check.refused(x, "simplest(0, 0, 1, 1)", x.simplest(0, 0, 1, 1), 1);
        Check.refused(x, "simplest(0, 1, 2, 1)", x.simplest(0, 1, 2, 1), 1);
    }

    private static void wide() {
        FareyRank x = new FareyRank();
        Check.due("wide(0, 1, 1, 1)", x.wide(0, 1, 1, 1), 1);
        Check.due("wide(2, 4, 5, 10)", x.wide(2, 4, 5, 10), 0);
        Check.due("wide(1, 3, 3, 4)", x.wide(1, 3, 3, 4), 5);
        Check.due("wide(3, 4, 1, 3)", x.wide(3, 4, 1, 3), 5);
        Check.due("wide(1, 9999, 9997, 9998)", x.wide(1, 9999, 9997, 9998), 9997 * 9999 - 9998);
        Check.due("wide(4, 6, 0, 7)", x.wide(4, 6, 0, 7), 2);
        Check.refused(x, "wide(4, 0, 0, 7)", x.wide(4, 0, 0, 7), 1);
        Check.refused(x, "wide(0, 7, 0, 10000)", x.wide(0, 7, 0, 10_000), 1);
    }
}
