/** Paragraph 2 of the terms: PRICES, the WHOLE, SOUND and the BOUND. */
public final class BoundaryTerms2Test extends DeskChecks {
    public static void main(String[] args) throws Exception {
        Boundaries.run(BoundaryTerms2Test.class);
    }

    @Says("PRICES: for each WIDTH a number (0 to 1000000; 0 at first),")
    static void t2_aPriceIs0To1000000() {
        refused("price(1, -1)", 0, x -> bit(x.price(1, -1)));
        refused("price(1, MIN)", 0, x -> bit(x.price(1, MIN)));
        refused("price(1, 1000001)", 0, x -> bit(x.price(1, 1000001)));
        refused("price(1, MAX)", 0, x -> bit(x.price(1, MAX)));
        ReelSlitter x = busy();
        yes("price(1, 1000000)", x.price(1, 1000000));
        is("PRICE", x.about(1, 4), 1000000);
        yes("price(1, 0)", x.price(1, 0));
        is("PRICE", x.about(1, 4), 0);
    }

    @Says("PRICES: for each WIDTH a number (0 to 1000000; 0 at first),")
    static void t2_aPriceIs0AtFirst() {
        ReelSlitter x = busy();
        is("a WIDTH more, among priced ones", x.width(20, 3), 3);
        is("its PRICE", x.about(3, 4), 0);
        is("the PRICE of another one", x.about(2, 4), 25);
    }

    @Says("and a WHOLE (1 at first).")
    static void t2_theWholeIs1AtFirst() {
        ReelSlitter x = desk(100, 0, 1, 50);
        orders(x, 3);
        yes("price(0, 1)", x.price(0, 1));
        is("3 / 1", x.bound(), 3);
        yes("price(0, 2)", x.price(0, 2));
        is("2 is worth more than 1", x.bound(), -1);
    }

    @Says("WORTH of a PATTERN: the sum of COUNTS times PRICES.")
    static void t2_worthFromNothingToTheMost() {
        ReelSlitter x = desk(100, 0, 20, 1, 2);
        is("without PRICES", x.pattern(0, -2), 0);
        yes("price", x.price(0, 1000000));
        is("20 of the greatest PRICE", x.pattern(0, -2), 20000000);
        yes("price", x.price(1, 999999));
        is("19 of the one, 1 of the other", x.pattern(1, -2), 19999999);
        is("the last has none of the first", x.pattern(x.patterns() - 1, -2), 999999);
    }

    @Says("PRICES are SOUND if no PATTERN that FITS is worth more than the WHOLE.")
    static void t2_asMuchAsTheWholeIsSound() {
        ReelSlitter x = desk(100, 0, 3, 50, 30);
        orders(x, 1, 1);
        x.price(0, 4);
        x.price(1, 3);
        yes("the WHOLE", x.price(-1, 9));
        is("3 x 30 is worth 9", x.bound(), 1);
        yes("the WHOLE", x.price(-1, 8));
        is("9 is more than 8", x.bound(), -1);
        x.price(1, 2);
        is("2 x 50 is worth 8", x.bound(), 1);
        yes("the WHOLE", x.price(-1, 7));
        is("8 is more than 7", x.bound(), -1);
    }

    @Says("PRICES are SOUND if no PATTERN that FITS is worth more than the WHOLE.")
    static void t2_whatDoesNotFitIsNotAsked() {
        ReelSlitter x = desk(100, 10, 3, 50, 81);
        orders(x, 2, 3);
        x.price(0, 1);
        x.price(1, 1000000);
        is("81 has no room: it may be worth more than 1", x.bound(), 3000002);
        yes("a greater room", x.mill(101, 10, 3));
        is("81 has room", x.bound(), -1);
    }

    @Says("PRICES are SOUND if no PATTERN that FITS is worth more than the WHOLE.")
    static void t2_whatIsNotWantedIsAskedToo() {
        ReelSlitter x = desk(100, 0, 1, 50, 30);
        orders(x, 2, 0);
        x.price(0, 1);
        x.price(1, 2);
        is("30 is not WANTED, but worth 2", x.bound(), -1);
        x.price(1, 1);
        is("worth 1", x.bound(), 2);
    }

    @Says("The BOUND of SOUND PRICES: the sum of WANTED times PRICES, divided by the WHOLE, "
            + "and cut up to a whole number.")
    static void t2_theBoundIsCutUp() {
        ReelSlitter x = desk(100, 0, 1, 50);
        orders(x, 10);
        x.price(0, 3);
        int[][] due = {{3, 10}, {4, 8}, {5, 6}, {14, 3}, {15, 2}, {16, 2}, {29, 2}, {30, 1}, {31, 1}, {1000000, 1}};
        for (int[] d : due) {
            yes("the WHOLE", x.price(-1, d[0]));
            is("30 / " + d[0], x.bound(), d[1]);
        }
        orders(x, 0);
        is("0 / 1000000", x.bound(), 0);
        orders(x, 1);
        is("3 / 1000000", x.bound(), 1);
    }

    @Says("The BOUND of SOUND PRICES: the sum of WANTED times PRICES, divided by the WHOLE, "
            + "and cut up to a whole number.")
    static void t2_theGreatestBound() {
        ReelSlitter x = desk(100, 25, 1, 51, 52, 53, 54, 55, 56);
        orders(x, 40, 40, 40, 40, 40, 40);
        for (int i = 0; i < 6; i++) {
            yes("price", x.price(i, 1000000));
        }
        is("240 x 1000000 / 1", x.bound(), 240000000);
        yes("the WHOLE", x.price(-1, 1000000));
        is("240 x 1000000 / 1000000", x.bound(), 240);
        yes("the WHOLE", x.price(-1, 999999));
        is("240 x 1000000 / 999999", x.bound(), 241);
    }

    @Says("The BOUND of SOUND PRICES: the sum of WANTED times PRICES, divided by the WHOLE, "
            + "and cut up to a whole number.")
    static void t2_whatIsDoneCountsNoLonger() {
        ReelSlitter x = desk(100, 0, 1, 50);
        orders(x, 4);
        x.price(0, 1);
        x.slot(0, 9);
        x.lot(300, 2, false);
        is("4", x.bound(), 4);
        is("cut", x.cut(0, 0, 300), 0);
        is("4 less 3", x.bound(), 1);
        is("cut", x.cut(0, 0, 300), 0);
        is("6 of 4 are DONE", x.bound(), 0);
    }
}
