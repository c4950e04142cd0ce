/** Promises 14 to 25: ROW. */
final class EdgesOfRow extends Edges {
    static void all() {
        valuesOfCalls();
        row();
        fraction();
        placeAndRank();
        below();
        aboveAndAhead();
        nearest();
        between();
        coprimes();
        simplest();
        wide();
    }

    private static void valuesOfCalls() {
        says("A VALUE is told by a top and a bottom (1 to 9,999; the top 0 to the bottom):",
            "no VALUE");
        from(FULL);
        for (String call : new String[] {"place(#)", "rank(#)", "above(#)", "ahead(#)",
            "nearest(#)", "between(#, 1, 2)", "between(1, 2, #)", "simplest(#, 1, 4)",
            "simplest(1, 4, #)", "wide(#, 1, 2)", "wide(1, 2, #)", "depth(#)", "turnAt(#, 0)",
            "parent(#)", "terms(#)", "termAt(#, 0)", "digits(#, 0)", "digitAt(#, 0)", "jump(#)",
            "wasAt(#)", "pin(#, 1)", "lift(#)", "weight(#)", "share(#)", "game(#, 1)",
            "moveOf(#, 1)"}) {
            values(call);
        }
    }

    private static void row() {
        says("ROW: all VALUES in lowest terms whose bottom is ORDER at most, rising, numbered from 0 "
            + "on (0 by 1 is the first, 1 by 1 the last).");
        from("rule(0, 1)");
        run("told(4) = 2", "fraction(0) = 0/1", "fraction(1) = 1/1", "place(0, 1) = 0",
            "place(1, 1) = 1", "place(1, 2) ! 6");
        from("rule(0, 2)");
        run("told(4) = 3", "fraction(0) = 0/1", "fraction(1) = 1/2", "fraction(2) = 1/1");
        from("rule(0, 4)");
        String[] four = {"0/1", "1/4", "1/3", "1/2", "2/3", "3/4", "1/1"};
        for (int k = 0; k < four.length; k++) {
            run("fraction(" + k + ") = " + four[k],
                "place(" + four[k].replace("/", ", ") + ") = " + k);
        }
        run("told(4) = 7", "fraction(7) ! 6", "place(2, 4) = 3", "place(1, 5) ! 6");
        says(": How many VALUES ROW would have by an ORDER (1 to 200) (1).");
        from(FULL);
        range("size(#)", 1, 200);
        run("size(1) = 2", "size(2) = 3", "size(3) = 5", "size(199) = 12153", "size(200) = 12233",
            "told(0) = 7", "told(4) = 19");
    }

    private static void fraction() {
        says(": The FRACTION is the k-th of ROW, from 0 on (1; 6: no such).",
            "a k or n below 0, too");
        from(FULL);
        run("fraction(0) = 0/1", "fraction(18) = 1/1", "fraction(19) ! 6", "fraction(20) ! 6",
            "fraction(MAX) ! 6", "fraction(-1) ! 1", "fraction(MIN) ! 1", "fraction(1) = 1/7",
            "fraction(17) = 6/7", "fraction(9) = 1/2");
        from("rule(0, 200)");
        run("fraction(0) = 0/1", "fraction(1) = 1/200", "fraction(2) = 1/199",
            "fraction(6116) = 1/2", "fraction(12230) = 198/199", "fraction(12231) = 199/200",
            "fraction(12232) = 1/1", "fraction(12233) ! 6", "fraction(-1) ! 1");
        from("rule(0, 1)");
        run("fraction(1) = 1/1", "fraction(2) ! 6", "fraction(-1) ! 1");
    }

    private static void placeAndRank() {
        says(": The number of a VALUE in ROW (1; 6: it is not in it).");
        from(FULL);
        run("place(0, 1) = 0", "place(0, 9999) = 0", "place(1, 1) = 18", "place(9999, 9999) = 18",
            "place(1, 7) = 1", "place(1428, 9996) = 1", "place(6, 7) = 17", "place(1, 8) ! 6",
            "place(7, 8) ! 6", "place(1, 9999) ! 6", "place(9998, 9999) ! 6", "place(2, 16) ! 6",
            "place(4, 8) = 9");
        from("rule(0, 200)");
        run("place(1, 200) = 1", "place(1, 201) ! 6", "place(199, 200) = 12231",
            "place(200, 201) ! 6", "place(2, 402) ! 6", "place(50, 9999) ! 6",
            "place(49, 9800) = 1");
        says(": How many of ROW are below a VALUE (1).");
        from(FULL);
        run("rank(0, 1) = 0", "rank(0, 9999) = 0", "rank(1, 9999) = 1", "rank(1, 7) = 1",
            "rank(1428, 9999) = 1", "rank(1429, 9999) = 2", "rank(6, 7) = 17",
            "rank(8571, 9999) = 18", "rank(9998, 9999) = 18", "rank(1, 1) = 18",
            "rank(9999, 9999) = 18");
        from("rule(0, 1)");
        run("rank(0, 1) = 0", "rank(1, 9999) = 1", "rank(9998, 9999) = 1", "rank(1, 1) = 1");
    }

    private static void below() {
        says(": How many of ROW are below m (0 to 2 to the 53rd) times 2 to the e (-60 to 0), which "
            + "is 1 at most (1: above 1, too).");
        from(FULL);
        range("below(0, #)", -60, 0);
        long most = 1L << 53;
        run("below(" + most + ", -60) = 1", "below(" + (most + 1) + ", -60) ! 1",
            "below(MAX, -60) ! 1", "below(-1, -60) ! 1", "below(MIN, -60) ! 1",
            "below(0, -60) = 0", "below(1, -60) = 1", "below(" + (most - 1) + ", -60) = 1");
        run("below(-1, 0) ! 1", "below(0, 0) = 0", "below(1, 0) = 18", "below(2, 0) ! 1",
            "below(1, 1) ! 1", "below(0, 1) ! 1", "below(0, -61) ! 1", "below(MAX, MAX) ! 1",
            "below(MIN, MIN) ! 1", "below(4294967296, 0) ! 1", "below(4294967297, 0) ! 1");
        for (int e = 1; e <= 52; e += 3) {
            long whole = 1L << e;
            run("below(" + whole + ", -" + e + ") = 18", "below(" + (whole + 1) + ", -" + e + ") ! 1",
                "below(" + (whole - 1) + ", -" + e + ") = " + (e == 1 ? 9 : 18),
                "below(" + whole / 2 + ", -" + e + ") = 9");
        }
        run("below(" + most + ", -53) = 18", "below(" + (most + 1) + ", -53) ! 1",
            "below(" + most + ", -52) ! 1", "below(" + most + ", -54) = 9",
            "below(" + (most / 2) + ", -53) = 9", "below(" + (most / 2 + 1) + ", -53) = 10",
            "below(" + (most / 2 - 1) + ", -53) = 9");
        from("rule(0, 200)");
        run("below(" + most + ", -53) = 12232", "below(" + (most - 1) + ", -53) = 12232",
            "below(" + most + ", -60) = 73", "below(1, -7) = 73", "below(1, -8) = 1");
    }

    private static void aboveAndAhead() {
        says(": The FRACTION is the least of ROW above a VALUE (1; 6: none).");
        from(FULL);
        run("above(1, 1) ! 6", "above(9999, 9999) ! 6", "above(9998, 9999) = 1/1",
            "above(6, 7) = 1/1", "above(5999, 7000) = 6/7", "above(0, 1) = 1/7",
            "above(0, 9999) = 1/7", "above(1, 9999) = 1/7", "above(1, 7) = 1/6",
            "above(2, 14) = 1/6", "above(1, 8) = 1/7");
        says(": The FRACTION is the greatest of ROW below a VALUE (1; 6: none).");
        run("ahead(0, 1) ! 6", "ahead(0, 9999) ! 6", "ahead(1, 9999) = 0/1", "ahead(1, 7) = 0/1",
            "ahead(2, 14) = 0/1", "ahead(1, 6) = 1/7", "ahead(1, 1) = 6/7",
            "ahead(9999, 9999) = 6/7", "ahead(9998, 9999) = 6/7", "ahead(6, 7) = 5/6");
        from("rule(0, 1)");
        run("above(0, 1) = 1/1", "above(1, 2) = 1/1", "above(1, 1) ! 6", "ahead(1, 1) = 0/1",
            "ahead(1, 2) = 0/1", "ahead(0, 1) ! 6");
        from("rule(0, 200)");
        run("above(0, 1) = 1/200", "above(1, 200) = 1/199", "above(199, 200) = 1/1",
            "ahead(1, 1) = 199/200", "ahead(1, 200) = 0/1", "ahead(1, 199) = 1/200",
            "above(1, 201) = 1/200", "ahead(1, 201) = 0/1");
    }

    private static void nearest() {
        says(": The FRACTION is that of ROW nearest to a VALUE, of two the lesser (1).");
        from(FULL);
        run("nearest(0, 1) = 0/1", "nearest(1, 1) = 1/1", "nearest(1, 14) = 0/1",
            "nearest(714, 9999) = 0/1", "nearest(715, 9999) = 1/7", "nearest(1, 13) = 1/7",
            "nearest(1, 15) = 0/1", "nearest(13, 14) = 6/7", "nearest(14, 15) = 1/1",
            "nearest(12, 13) = 6/7", "nearest(2, 14) = 1/7", "nearest(1, 9999) = 0/1",
            "nearest(9998, 9999) = 1/1");
        // half of 1/7 and 1/6 is 13/84, half of 3/7 and 1/2 is 13/28
        run("nearest(13, 84) = 1/7", "nearest(1548, 9999) = 1/6", "nearest(1547, 9999) = 1/7",
            "nearest(13, 28) = 3/7", "nearest(14, 30) = 1/2");
        from("rule(0, 1)");
        run("nearest(1, 2) = 0/1", "nearest(4999, 9999) = 0/1", "nearest(5000, 9999) = 1/1");
    }

    private static void between() {
        says(": How many of ROW are above one VALUE and below the other, whichever is less (1).");
        from(FULL);
        run("between(0, 1, 1, 1) = 17", "between(1, 1, 0, 1) = 17", "between(0, 1, 0, 1) = 0",
            "between(1, 1, 1, 1) = 0", "between(1, 2, 4999, 9998) = 0", "between(1, 2, 1, 2) = 0",
            "between(0, 9999, 1, 9999) = 0", "between(0, 1, 1, 7) = 0", "between(0, 1, 1, 6) = 1",
            "between(1, 6, 0, 1) = 1", "between(1, 7, 1, 6) = 0", "between(1, 8, 1, 6) = 1",
            "between(6, 7, 1, 1) = 0", "between(5, 6, 1, 1) = 1", "between(9998, 9999, 1, 1) = 0",
            "between(1, 9999, 9998, 9999) = 17", "between(1, 3, 1, 3) = 0",
            "between(1, 3, 2, 3) = 5", "between(2, 3, 1, 3) = 5");
        from("rule(0, 1)");
        run("between(0, 1, 1, 1) = 0", "between(1, 9999, 1, 1) = 0");
    }

    private static void coprimes() {
        says(": How many pairs x from 1 to a and y from 1 to b (0 to 200) have no common divisor but "
            + "1 (1).");
        from(FULL);
        range("coprimes(#, 7)", 0, 200);
        range("coprimes(7, #)", 0, 200);
        run("coprimes(0, 0) = 0", "coprimes(0, 200) = 0", "coprimes(200, 0) = 0",
            "coprimes(1, 1) = 1", "coprimes(1, 200) = 200", "coprimes(200, 1) = 200",
            "coprimes(2, 2) = 3", "coprimes(200, 2) = 300", "coprimes(200, 200) = 24463",
            "coprimes(-1, 201) ! 1", "coprimes(0, 201) ! 1", "coprimes(201, 0) ! 1",
            "coprimes(-1, 0) ! 1", "coprimes(0, -1) ! 1");
    }

    private static void simplest() {
        says("SIMPLEST between two VALUES: that with the least bottom, above the lesser one, below "
            + "the greater one.", ": The FRACTION is SIMPLEST between two VALUES (1; 7: they are "
            + "alike).");
        from(FULL);
        run("simplest(0, 1, 1, 1) = 1/2", "simplest(1, 1, 0, 1) = 1/2", "simplest(0, 1, 1, 2) = 1/3",
            "simplest(1, 2, 1, 1) = 2/3", "simplest(1, 3, 1, 2) = 2/5", "simplest(1, 3, 2, 3) = 1/2",
            "simplest(0, 1, 1, 9999) = 1/10000", "simplest(9998, 9999, 1, 1) = 9999/10000",
            "simplest(1, 9999, 1, 9998) = 2/19997", "simplest(4999, 9999, 1, 2) = 5000/10001",
            "simplest(1, 9999, 1, 1) = 1/2", "simplest(1, 9999, 1, 2) = 1/3",
            "simplest(2, 4, 51, 100) = 26/51");
        run("simplest(1, 2, 1, 2) ! 7", "simplest(1, 2, 4999, 9998) ! 7", "simplest(0, 1, 0, 9999) ! 7",
            "simplest(1, 1, 9999, 9999) ! 7", "simplest(3, 9, 2, 6) ! 7", "simplest(2, 1, 2, 1) ! 1",
            "simplest(1, 0, 1, 0) ! 1");
    }

    private static void wide() {
        says(": Of two VALUES, both in lowest terms, the size of the difference of one's top times "
            + "the other's bottom, the other way round (1).");
        from(FULL);
        run("wide(0, 1, 0, 1) = 0", "wide(0, 9, 0, 9999) = 0", "wide(1, 1, 7, 7) = 0",
            "wide(2, 4, 3, 6) = 0", "wide(0, 9999, 9999, 9999) = 1", "wide(9999, 9999, 0, 9999) = 1",
            "wide(1, 3, 1, 2) = 1", "wide(1, 2, 1, 3) = 1", "wide(2, 6, 2, 4) = 1",
            "wide(0, 1, 9998, 9999) = 9998", "wide(1, 9999, 9997, 9998) = 99950005",
            "wide(9997, 9998, 1, 9999) = 99950005");
    }
}
