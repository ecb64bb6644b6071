/** The object and paragraph 1 of the terms: the last value that is allowed and the first that is not. */
public final class BoundaryTerms1Test extends DeskChecks {
    public static void main(String[] args) throws Exception {
        Boundaries.run(BoundaryTerms1Test.class);
    }

    /** A small desk whose WIDTHS would let W be less than 10. */
    private static ReelSlitter small() {
        ReelSlitter x = desk(20, 2, 3, 5, 7);
        orders(x, 3, 2);
        x.strip(4, 6);
        add(x, 2, 1, 1);
        x.keep();
        add(x, 1, 2, 0);
        x.lot(300, 2, true);
        return x;
    }

    private static ReelSlitter sixWidths() {
        ReelSlitter x = desk(100, 0, 2, 10, 20, 30, 40, 50, 60);
        orders(x, 1, 0, 1, 0, 1, 1);
        x.slot(0, 2);
        x.keep();
        return x;
    }

    // ---- the object

    private static ReelSlitter after511Calls() {
        ReelSlitter x = new ReelSlitter();
        x.mill(10000, 0, 20);
        x.width(500, 40);
        x.length(1);
        x.slot(0, 1000);
        x.lot(100000, 1000, false);
        for (int n = 5; n < 511; n++) {
            x.cut(0, 0, 100000);
        }
        return x;
    }

    @Says("An object is used for at most 512 calls after it has been made; what later calls answer is free.")
    static void o_the512thCallIsAnsweredAsTheFirst() {
        is("DONE, the most that can be", after511Calls().about(0, 2), 506 * 20 * 100000);
        is("USED, the most that can be", after511Calls().area(1), 506L * 20 * 500 * 100000);
        is("LOST", after511Calls().area(3), 0);
        is("ROLLS", after511Calls().slotted(0, 0), 1000 - 506);
        is("cut", after511Calls().cut(0, 0, 100000), 0);
    }

    @Says("`NONE = -1`: There is none.")
    static void o_noneIsMinus1() {
        is("NONE", ReelSlitter.NONE, -1);
    }

    // ---- the MILL

    @Says("THE MILL: rolls are W millimetres wide (10 to 10000),")
    static void t1_wIs10To10000() {
        refused("mill(9, 0, 3)", 0, BoundaryTerms1Test::small, x -> bit(x.mill(9, 0, 3)));
        refused("mill(0, 0, 3)", 0, BoundaryTerms1Test::small, x -> bit(x.mill(0, 0, 3)));
        refused("mill(-1, 0, 3)", 0, BoundaryTerms1Test::small, x -> bit(x.mill(-1, 0, 3)));
        refused("mill(MIN, 0, 3)", 0, BoundaryTerms1Test::small, x -> bit(x.mill(MIN, 0, 3)));
        refused("mill(10001, 0, 3)", 0, x -> bit(x.mill(10001, 0, 3)));
        refused("mill(MAX, 0, 3)", 0, x -> bit(x.mill(MAX, 0, 3)));
        ReelSlitter x = desk(10, 0, 1);
        is("11 of 10", x.width(11, 0), -1);
        is("10 of 10", x.width(10, 0), 0);
        is("WASTE of 10 of 10", x.pattern(0, -1), 0);
        yes("mill(10000, 0, 1)", x.mill(10000, 0, 1));
        is("10001 of 10000", x.width(10001, 0), -1);
        is("10000 of 10000", x.width(10000, 0), 1);
        is("WASTE of 10 of 10000", x.pattern(0, -1), 9990);
        is("WASTE of 10000 of 10000", x.pattern(1, -1), 0);
    }

    @Says("an EDGE on each side is cut off (0 to W / 4, whole part),")
    static void t1_edgeIs0ToAFourthOfW() {
        refused("mill(200, -1, 4)", 0, x -> bit(x.mill(200, -1, 4)));
        refused("mill(200, MIN, 4)", 0, x -> bit(x.mill(200, MIN, 4)));
        refused("mill(200, 51, 4)", 0, x -> bit(x.mill(200, 51, 4)));
        refused("mill(203, 51, 4)", 0, x -> bit(x.mill(203, 51, 4)));
        refused("mill(200, MAX, 4)", 0, x -> bit(x.mill(200, MAX, 4)));
        refused("mill(10000, 2501, 4)", 0, x -> bit(x.mill(10000, 2501, 4)));
        refused("mill(10, 3, 4)", 0, BoundaryTerms1Test::small, x -> bit(x.mill(10, 3, 4)));
        is("EDGE 0 of 200: 200 has room, 201 is no WIDTH", desk(200, 0, 1, 199, 200).patterns(), 2);
        is("EDGE 50 of 200: 100 has room, 101 has none", desk(200, 50, 1, 100, 101).patterns(), 1);
        is("EDGE 50 of 203: 103 has room, 104 has none", desk(203, 50, 1, 103, 104).patterns(), 1);
        is("EDGE 51 of 204: 102 has room, 103 has none", desk(204, 51, 1, 102, 103).patterns(), 1);
        is("EDGE 2 of 10: 6 has room, 7 has none", desk(10, 2, 1, 6, 7).patterns(), 1);
        is("EDGE 2500 of 10000: 5000 has room, 5001 has none", desk(10000, 2500, 1, 5000, 5001).patterns(), 1);
    }

    @Says("a roll is cut into KNIVES pieces at most (1 to 20).")
    static void t1_knivesAre1To20() {
        refused("mill(200, 10, 0)", 0, x -> bit(x.mill(200, 10, 0)));
        refused("mill(200, 10, -1)", 0, x -> bit(x.mill(200, 10, -1)));
        refused("mill(200, 10, MIN)", 0, x -> bit(x.mill(200, 10, MIN)));
        refused("mill(200, 10, 21)", 0, x -> bit(x.mill(200, 10, 21)));
        refused("mill(200, 10, MAX)", 0, x -> bit(x.mill(200, 10, MAX)));
        is("KNIVES 1", desk(100, 0, 1, 1).patterns(), 1);
        is("KNIVES 20", desk(100, 0, 20, 1).patterns(), 20);
    }

    // ---- the STRIP

    @Says("FLAWED rolls have a STRIP, from F on, below G (0 <= F <= G <= W),")
    static void t1_fIs0AtLeastAndGAtMost() {
        refused("strip(-1, 90)", 0, x -> bit(x.strip(-1, 90)));
        refused("strip(-1, -1)", 0, x -> bit(x.strip(-1, -1)));
        refused("strip(MIN, 90)", 0, x -> bit(x.strip(MIN, 90)));
        refused("strip(91, 90)", 0, x -> bit(x.strip(91, 90)));
        refused("strip(1, 0)", 0, x -> bit(x.strip(1, 0)));
        refused("strip(MAX, MIN)", 0, x -> bit(x.strip(MAX, MIN)));
        ReelSlitter x = busy();
        yes("strip(0, 110)", x.strip(0, 110));
        is("RIGHT 80: 60 and not 2 x 45", fitsFlawed(x, 1) * 10 + fitsFlawed(x, 0, 2), 10);
        yes("strip(110, 110)", x.strip(110, 110));
        is("F is G: no STRIP", fitsFlawed(x, 3), 1);
        yes("strip(109, 110)", x.strip(109, 110));
        is("LEFT 99, RIGHT 80: no 3 x 60", fitsFlawed(x, 3), 0);
        yes("strip(0, 0)", x.strip(0, 0));
        is("F, G 0: no STRIP", fitsFlawed(x, 3), 1);
    }

    @Says("FLAWED rolls have a STRIP, from F on, below G (0 <= F <= G <= W),")
    static void t1_gIsWAtMost() {
        refused("strip(70, 201)", 0, x -> bit(x.strip(70, 201)));
        refused("strip(201, 201)", 0, x -> bit(x.strip(201, 201)));
        refused("strip(70, MAX)", 0, x -> bit(x.strip(70, MAX)));
        refused("strip(MAX, MAX)", 0, x -> bit(x.strip(MAX, MAX)));
        refused("strip(MIN, MAX)", 0, x -> bit(x.strip(MIN, MAX)));
        ReelSlitter x = busy();
        yes("strip(70, 200)", x.strip(70, 200));
        is("LEFT 60, RIGHT 0: 60 and not 45 + 30", fitsFlawed(x, 1) * 10 + fitsFlawed(x, 0, 1, 1), 10);
        yes("strip(0, 200)", x.strip(0, 200));
        is("not even 30", fitsFlawed(x, 0, 0, 1), 0);
        yes("strip(200, 200)", x.strip(200, 200));
        is("no STRIP", fitsFlawed(x, 3), 1);
    }

    @Says("over which no piece may lie.")
    static void t1_aPieceMayEndAtFAndBeginAtG() {
        ReelSlitter x = desk(100, 0, 2, 40, 50);
        yes("strip(40, 50)", x.strip(40, 50));
        is("40 ends at F, 50 begins at G", fitsFlawed(x, 1, 1), 1);
        yes("strip(39, 50)", x.strip(39, 50));
        is("40 lies over F", fitsFlawed(x, 1, 1), 0);
        yes("strip(40, 51)", x.strip(40, 51));
        is("50 lies over what is below G", fitsFlawed(x, 1, 1), 0);
    }

    // ---- WIDTHS

    @Says("WIDTHS (at most 6,")
    static void t1_atMost6Widths() {
        ReelSlitter x = desk(100, 0, 2, 10, 20, 30, 40, 50);
        is("a 6th", x.width(60, 4), 5);
        is("the 6th", x.about(5, 0), 60);
        is("a 7th", x.width(70, 4), -1);
        refused("a 7th", -1, BoundaryTerms1Test::sixWidths, y -> y.width(70, 4));
    }

    @Says("WIDTHS (at most 6,")
    static void t1_allCallsServe6Widths() {
        ReelSlitter x = desk(100, 0, 5, 20, 19, 18, 17, 16, 15);
        orders(x, 5, 0, 0, 0, 0, 4);
        yes("length", x.length(10));
        yes("strip", x.strip(30, 31));
        is("15 on the left, 15 on the right", fitsFlawed(x, 0, 0, 0, 0, 0, 2), 1);
        yes("price", x.price(5, 1));
        is("5 x 15", x.best(), number(x, 0, 0, 0, 0, 0, 5));
        yes("the WHOLE", x.price(-1, 5));
        is("4 / 5", x.bound(), 1);
        is("fewest()", x.fewest(), 2);
        counts("5 x 20", x, 0, 1, 5, 0, 0, 0, 0, 0);
        counts("20 + 4 x 15, the first with 4 of these", x, 1, 1, 1, 0, 0, 0, 0, 4);
        is("beyond", x.plan(5), 1);
        is("MOVES: 0 to 100, then 35, 50, 65 and not 80", x.plan(3), 6 + 3);
        is("line(): 0, 20, 35, 50, 65, 80, then 40, 60, 100", x.line(), 9);
        is("greedy()", x.greedy(), 2);
        counts("4 x 15", x, 1, 1, 0, 0, 0, 0, 0, 4);
        is("WASTE", x.plan(2), 40);
        x.lot(30, 9, false);
        is("cut", x.cut(1, 0, 30), 0);
        is("DONE", x.about(5, 2), 12);
        no("length", x.length(10));
        is("share", x.share(x.patterns() - 1, 4, 1), 3);
    }

    @Says("numbered from 0 on,")
    static void t1_widthsAreNumberedFrom0On() {
        ReelSlitter x = desk(100, 0, 2);
        is("none yet", x.about(0, 0), -1);
        for (int i = 0; i < 6; i++) {
            is("width", x.width(60 - 10 * i, i), i);
            is("millimetres", x.about(i, 0), 60 - 10 * i);
            is("the next is not there yet", x.about(i + 1, 0), -1);
        }
    }

    @Says("each another one,")
    static void t1_noWidthTwice() {
        refused("width(60, 1): the first", -1, x -> x.width(60, 1));
        refused("width(45, 1): one between", -1, x -> x.width(45, 1));
        refused("width(30, 1): the last", -1, x -> x.width(30, 1));
        ReelSlitter x = busy();
        is("one more millimetre", x.width(61, 1), 3);
        is("one less", x.width(59, 1), 4);
        is("that one, again", x.width(59, 1), -1);
    }

    @Says("1 to W) are")
    static void t1_aWidthIs1ToW() {
        refused("width(0, 1)", -1, x -> x.width(0, 1));
        refused("width(-1, 1)", -1, x -> x.width(-1, 1));
        refused("width(MIN, 1)", -1, x -> x.width(MIN, 1));
        refused("width(201, 1)", -1, x -> x.width(201, 1));
        refused("width(MAX, 1)", -1, x -> x.width(MAX, 1));
        ReelSlitter x = busy();
        is("width(1, 1)", x.width(1, 1), 3);
        is("W itself, though EDGE leaves 180", x.width(200, 1), 4);
        is("millimetres", x.about(4, 0), 200);
        is("it has no room", number(x, 0, 0, 0, 0, 1), -1);
        is("181 has none either", x.width(181, 1), 5);
        is("181", number(x, 0, 0, 0, 0, 0, 1), -1);
    }

    @Says("ORDERED: so many pieces each (0 to 40),")
    static void t1_orderedAre0To40() {
        refused("width(20, -1)", -1, x -> x.width(20, -1));
        refused("width(20, MIN)", -1, x -> x.width(20, MIN));
        refused("width(20, 41)", -1, x -> x.width(20, 41));
        refused("width(20, MAX)", -1, x -> x.width(20, MAX));
        refused("order(1, -1)", 0, x -> bit(x.order(1, -1)));
        refused("order(1, 41)", 0, x -> bit(x.order(1, 41)));
        ReelSlitter x = busy();
        is("width(20, 0)", x.width(20, 0), 3);
        is("ORDERED 0", x.about(3, 1), 0);
        is("width(21, 40)", x.width(21, 40), 4);
        is("ORDERED 40", x.about(4, 1), 40);
        yes("order(4, 0)", x.order(4, 0));
        is("ORDERED 0", x.about(4, 1), 0);
        yes("order(3, 40)", x.order(3, 40));
        is("ORDERED 40", x.about(3, 1), 40);
    }

    private static ReelSlitter uncut() {
        ReelSlitter x = desk(100, 0, 2, 50);
        x.length(30);
        x.slot(0, 9);
        x.lot(20000, 9, false);
        return x;
    }

    @Says("all of LENGTH metres (1 to 10000).")
    static void t1_lengthIs1To10000() {
        refused("length(0)", 0, BoundaryTerms1Test::uncut, x -> bit(x.length(0)));
        refused("length(-1)", 0, BoundaryTerms1Test::uncut, x -> bit(x.length(-1)));
        refused("length(MIN)", 0, BoundaryTerms1Test::uncut, x -> bit(x.length(MIN)));
        refused("length(10001)", 0, BoundaryTerms1Test::uncut, x -> bit(x.length(10001)));
        refused("length(MAX)", 0, BoundaryTerms1Test::uncut, x -> bit(x.length(MAX)));
        ReelSlitter x = uncut();
        yes("length(1)", x.length(1));
        is("cut", x.cut(0, 0, 3), 0);
        is("SETS of 1 metre", x.area(5), 3);
        x = uncut();
        yes("length(10000)", x.length(10000));
        is("cut", x.cut(0, 0, 9999), 0);
        is("no SET of 9999 metres", x.area(5), 0);
        is("cut", x.cut(0, 0, 10000), 0);
        is("one of 10000", x.area(5), 1);
    }

    @Says("WANTED of a WIDTH: what is ORDERED less what is DONE, at least 0.")
    static void t1_wantedIs0AtLeast() {
        ReelSlitter x = desk(100, 0, 1, 60);
        orders(x, 4);
        x.slot(0, 9);
        x.lot(300, 9, false);
        is("nothing is DONE", x.about(0, 3), 4);
        x.cut(0, 0, 300);
        is("3 of 4 are DONE", x.about(0, 3), 1);
        x.cut(0, 0, 100);
        is("4 of 4", x.about(0, 3), 0);
        x.cut(0, 0, 100);
        is("5 of 4", x.about(0, 3), 0);
        is("DONE", x.about(0, 2), 5);
        yes("order(0, 5)", x.order(0, 5));
        is("5 of 5", x.about(0, 3), 0);
        yes("order(0, 6)", x.order(0, 6));
        is("5 of 6", x.about(0, 3), 1);
        yes("order(0, 0)", x.order(0, 0));
        is("5 of 0", x.about(0, 3), 0);
    }

    // ---- PATTERNS

    @Says("A PATTERN tells how many pieces of each WIDTH (COUNTS), 1 to KNIVES in all.")
    static void t1_aPatternHas1ToKnivesPieces() {
        ReelSlitter x = desk(1000, 0, 3, 10, 11);
        is("no piece", number(x, 0, 0), -1);
        is("one piece, the last PATTERN", number(x, 0, 1), 8);
        is("KNIVES pieces, the first one", number(x, 3, 0), 0);
        is("KNIVES pieces of two WIDTHS", number(x, 1, 2), 3);
        is("one more than KNIVES", number(x, 4, 0), -1);
        is("one more than KNIVES, of two WIDTHS", number(x, 2, 2), -1);
        is("all of them", x.patterns(), 9);
        is("without WIDTHS there is none", desk(1000, 0, 3).patterns(), 0);
    }

    @Says("It FITS if its pieces' widths are W less twice EDGE at most together;")
    static void t1_aPatternMayFillTheRoom() {
        ReelSlitter x = desk(100, 5, 9, 30, 31);
        is("3 x 30 in 90", number(x, 3, 0), 0);
        is("2 x 30 + 31 in 90", number(x, 2, 1), -1);
        is("2 x 30 is the next", number(x, 2, 0), 1);
        is("one alone, as wide as the room", desk(100, 5, 9, 90).patterns(), 1);
        is("one alone, wider by 1", desk(100, 5, 9, 91).patterns(), 0);
    }

    @Says("it FITS a FLAWED roll if it FITS and (if F is below G)")
    static void t1_withoutAStripAllThatFitsFitsAFlawedRoll() {
        ReelSlitter x = desk(100, 0, 1, 100, 99);
        int[] empty = {0, 1, 50, 99, 100};
        for (int f : empty) {
            yes("strip of nothing", x.strip(f, f));
            is("100 fits at F, G " + f, fitsFlawed(x, 1), 1);
        }
        yes("strip(50, 51)", x.strip(50, 51));
        is("1 millimetre in the midst: 100", fitsFlawed(x, 1), 0);
        is("1 millimetre in the midst: 99", fitsFlawed(x, 0, 1), 0);
        yes("strip(0, 1)", x.strip(0, 1));
        is("1 millimetre at the left end: 100", fitsFlawed(x, 1), 0);
        is("1 millimetre at the left end: 99", fitsFlawed(x, 0, 1), 1);
        yes("strip(99, 100)", x.strip(99, 100));
        is("1 millimetre at the right end: 100", fitsFlawed(x, 1), 0);
        is("1 millimetre at the right end: 99", fitsFlawed(x, 0, 1), 1);
    }

    @Says("its pieces can be parted in two so that those of one part are LEFT at most together, "
            + "those of the other RIGHT at most:")
    static void t1_bothPartsMayBeFull() {
        ReelSlitter x = desk(100, 0, 4, 30, 20);
        yes("LEFT 50, RIGHT 40", x.strip(50, 60));
        is("30 + 20, 2 x 20", fitsFlawed(x, 1, 3), 1);
        yes("LEFT 49, RIGHT 40", x.strip(49, 60));
        is("30 + 3 x 20", fitsFlawed(x, 1, 3), 0);
        yes("LEFT 50, RIGHT 39", x.strip(50, 61));
        is("30 + 3 x 20", fitsFlawed(x, 1, 3), 0);
        yes("LEFT 40, RIGHT 50", x.strip(40, 50));
        is("2 x 20, 30 + 20", fitsFlawed(x, 1, 3), 1);
    }

    @Says("its pieces can be parted in two so that those of one part are LEFT at most together, "
            + "those of the other RIGHT at most:")
    static void t1_onePartMayBeEmpty() {
        ReelSlitter x = desk(100, 0, 4, 30, 20);
        yes("LEFT 0, RIGHT 30", x.strip(0, 70));
        is("30 on the right", fitsFlawed(x, 1), 1);
        yes("LEFT 0, RIGHT 29", x.strip(0, 71));
        is("30 on the right", fitsFlawed(x, 1), 0);
        yes("LEFT 30, RIGHT 0", x.strip(30, 100));
        is("30 on the left", fitsFlawed(x, 1), 1);
        yes("LEFT 29, RIGHT 0", x.strip(29, 100));
        is("30 on the left", fitsFlawed(x, 1), 0);
    }

    @Says("its pieces can be parted in two so that those of one part are LEFT at most together, "
            + "those of the other RIGHT at most:")
    static void t1_anyPartingWillDo() {
        ReelSlitter x = desk(130, 0, 4, 50, 40, 30);
        yes("LEFT 70, RIGHT 50", x.strip(70, 80));
        is("40 + 30, 50: neither the greatest nor the first lies left", fitsFlawed(x, 1, 1, 1), 1);
        yes("LEFT 50, RIGHT 70", x.strip(50, 60));
        is("50, 40 + 30: neither the greatest nor the first lies right", fitsFlawed(x, 1, 1, 1), 1);
        yes("LEFT 60, RIGHT 60", x.strip(60, 70));
        is("room for 120, but no parting", fitsFlawed(x, 1, 1, 1), 0);
    }

    @Says("LEFT is the lesser of F and W - EDGE, less EDGE;")
    static void t1_leftEndsAtFOrAtTheEdge() {
        ReelSlitter x = desk(100, 20, 2, 30);
        yes("LEFT 30, RIGHT 20", x.strip(50, 60));
        is("30", fitsFlawed(x, 1), 1);
        yes("LEFT 29, RIGHT 20", x.strip(49, 60));
        is("30", fitsFlawed(x, 1), 0);
        yes("F ahead of the edge: LEFT 59", x.strip(79, 100));
        is("2 x 30", fitsFlawed(x, 2), 0);
        yes("F at the edge: LEFT 60", x.strip(80, 100));
        is("2 x 30", fitsFlawed(x, 2), 1);
        yes("F in the edge: LEFT 60", x.strip(81, 100));
        is("2 x 30", fitsFlawed(x, 2), 1);
    }

    @Says("RIGHT is W - EDGE less the greater of G and EDGE;")
    static void t1_rightBeginsAtGOrAtTheEdge() {
        ReelSlitter x = desk(100, 20, 2, 30);
        yes("LEFT 20, RIGHT 30", x.strip(40, 50));
        is("30", fitsFlawed(x, 1), 1);
        yes("LEFT 20, RIGHT 29", x.strip(40, 51));
        is("30", fitsFlawed(x, 1), 0);
        yes("G in the edge: RIGHT 60", x.strip(0, 19));
        is("2 x 30", fitsFlawed(x, 2), 1);
        yes("G at the edge: RIGHT 60", x.strip(0, 20));
        is("2 x 30", fitsFlawed(x, 2), 1);
        yes("G behind the edge: RIGHT 59", x.strip(0, 21));
        is("2 x 30", fitsFlawed(x, 2), 0);
    }

    @Says("each 0 at least.")
    static void t1_aSideWithinTheEdgeIsEmptyNotLess() {
        ReelSlitter x = desk(100, 20, 2, 30, 1);
        yes("F 20 short of the left edge", x.strip(0, 20));
        is("all on the right", fitsFlawed(x, 2), 1);
        yes("F 1 short of the left edge", x.strip(19, 50));
        is("30 on the right", fitsFlawed(x, 1), 1);
        is("nothing on the left", fitsFlawed(x, 1, 1), 0);
        yes("F 1 behind the left edge", x.strip(21, 50));
        is("1 on the left", fitsFlawed(x, 1, 1), 1);
        yes("G 20 behind the right edge", x.strip(80, 100));
        is("all on the left", fitsFlawed(x, 2), 1);
        yes("G 1 behind the right edge", x.strip(50, 81));
        is("30 on the left", fitsFlawed(x, 1), 1);
        is("nothing on the right", fitsFlawed(x, 1, 1), 0);
        yes("G 1 short of the right edge", x.strip(50, 79));
        is("1 on the right", fitsFlawed(x, 1, 1), 1);
        yes("all is STRIP", x.strip(0, 100));
        is("not even 1", fitsFlawed(x, 0, 1), 0);
    }

    @Says("Its WASTE is W less its pieces' widths.")
    static void t1_wasteCountsTheEdges() {
        ReelSlitter x = desk(100, 25, 2, 50, 25);
        is("50 of a room of 50", x.pattern(number(x, 1, 0), -1), 50);
        is("25", x.pattern(number(x, 0, 1), -1), 75);
        is("2 x 25", x.pattern(number(x, 0, 2), -1), 50);
        x = desk(10000, 0, 1, 10000, 1);
        is("no WASTE", x.pattern(0, -1), 0);
        is("the most WASTE", x.pattern(1, -1), 9999);
    }

    @Says("PATTERNS that FIT are numbered from 0 on:")
    static void t1_patternsAreNumberedFrom0On() {
        ReelSlitter x = desk(100, 0, 2, 50);
        is("ahead of the first", x.pattern(-1, 0), -1000);
        is("the first", x.pattern(0, 0), 2);
        is("the last", x.pattern(1, 0), 1);
        is("behind the last", x.pattern(2, 0), -1000);
    }

    @Says("of two the one comes first that has more of the first WIDTH in which they differ.")
    static void t1_patternsAreOrderedByNumbersOfWidths() {
        ReelSlitter x = desk(100, 0, 3, 20, 60, 40);
        int[][] due = {{3, 0, 0}, {2, 1, 0}, {2, 0, 1}, {2, 0, 0}, {1, 1, 0}, {1, 0, 2}, {1, 0, 1}, {1, 0, 0},
            {0, 1, 1}, {0, 1, 0}, {0, 0, 2}, {0, 0, 1}};
        is("all of them", x.patterns(), due.length);
        for (int k = 0; k < due.length; k++) {
            for (int i = 0; i < 3; i++) {
                is("pattern(" + k + ", " + i + ")", x.pattern(k, i), due[k][i]);
            }
        }
    }

    @Says("(They change with each call that changes the MILL or its WIDTHS.)")
    static void t1_numbersChangeWithMillAndWidthAlone() {
        ReelSlitter x = desk(100, 0, 2, 50);
        is("2 x 50, 50", x.patterns(), 2);
        no("a MILL that is refused", x.mill(49, 0, 2));
        is("a WIDTH that is refused", x.width(50, 1), -1);
        yes("strip", x.strip(10, 90));
        yes("order", x.order(0, 9));
        yes("price", x.price(0, 9));
        is("still 2", x.patterns(), 2);
        is("a WIDTH more", x.width(40, 0), 1);
        is("2 x 50, 50 + 40, 50, 2 x 40, 40", x.patterns(), 5);
        is("50 was 1", number(x, 1), 2);
        yes("another EDGE", x.mill(100, 10, 2));
        is("50, 2 x 40, 40", x.patterns(), 3);
        is("50", number(x, 1), 0);
        yes("other KNIVES", x.mill(100, 10, 1));
        is("50, 40", x.patterns(), 2);
        yes("another W", x.mill(61, 10, 1));
        is("40", x.patterns(), 1);
    }
}
