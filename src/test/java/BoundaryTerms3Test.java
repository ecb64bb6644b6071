/** Paragraph 3 of the terms: the PLAN, GREEDY, FEWEST, CUTS, MOVES and the LINE. */
public final class BoundaryTerms3Test extends DeskChecks {
    public static void main(String[] args) throws Exception {
        Boundaries.run(BoundaryTerms3Test.class);
    }

    /** All 60 SLOTS: the first of 7 ROLLS of 2 x 50, the others of 30 alone. */
    private static ReelSlitter sixtySlots() {
        ReelSlitter x = desk(100, 0, 2, 50, 30);
        orders(x, 2, 3);
        add(x, 7, 2, 0);
        for (int s = 1; s < 60; s++) {
            add(x, s, 0, 1);
        }
        return x;
    }

    // ---- SLOTS and ROLLS

    @Says("A PLAN has SLOTS (at most 60):")
    static void t3_atMost60Slots() {
        ReelSlitter x = sixtySlots();
        is("60", x.plan(0), 60);
        is("the last is 59", x.slotted(59, 0), 59);
        is("there is no 60", x.slotted(60, 0), -1);
        refused("a 61st", -1, BoundaryTerms3Test::sixtySlots, y -> y.slot(0, 1));
        yes("one goes", x.drop(30));
        is("a 60th again", x.slot(0, 3), 59);
        is("a 61st", x.slot(0, 3), -1);
    }

    @Says("a PATTERN (its COUNTS, whatever becomes of its number)")
    static void t3_aSlotHoldsItsCounts() {
        ReelSlitter x = desk(100, 0, 3, 50, 30);
        add(x, 4, 1, 1);
        add(x, 5, 0, 3);
        x.strip(20, 80);
        x.price(1, 9);
        x.order(0, 9);
        x.drop(0);
        counts("behind other calls", x, 0, 5, 0, 3);
        x.keep();
        is("a WIDTH that is refused", x.width(30, 0), -1);
        counts("still", x, 0, 5, 0, 3);
        is("a WIDTH more", x.width(20, 0), 2);
        is("the SLOT is gone with the numbers", x.slotted(0, 0), -1);
        no("nor does it come back by another number", x.undo());
    }

    @Says("and how many ROLLS (1 to 1000) are cut so.")
    static void t3_rollsAre1To1000() {
        refused("slot(0, 0)", -1, x -> x.slot(0, 0));
        refused("slot(0, -1)", -1, x -> x.slot(0, -1));
        refused("slot(0, MIN)", -1, x -> x.slot(0, MIN));
        refused("slot(0, 1001)", -1, x -> x.slot(0, 1001));
        refused("slot(0, MAX)", -1, x -> x.slot(0, MAX));
        ReelSlitter x = busy();
        is("slot(0, 1)", x.slot(0, 1), 2);
        is("ROLLS", x.slotted(2, 0), 1);
        is("slot(0, 1000)", x.slot(0, 1000), 3);
        is("ROLLS", x.slotted(3, 0), 1000);
    }

    // ---- PLANS that are made by themselves

    @Says("Two PLANS are made by themselves, each a new PLAN in place of the old one, by rolls one by one;")
    static void t3_aFullPlanGivesWay() {
        ReelSlitter x = sixtySlots();
        is("greedy()", x.greedy(), 3);
        is("SLOTS", x.plan(0), 3);
        counts("2 x 50", x, 0, 1, 2, 0);
        counts("2 x 30", x, 1, 1, 0, 2);
        counts("30", x, 2, 1, 0, 1);
        x = sixtySlots();
        is("fewest()", x.fewest(), 3);
        is("SLOTS", x.plan(0), 3);
        counts("2 x 50", x, 0, 1, 2, 0);
        counts("50 + 30", x, 1, 1, 1, 1);
        counts("2 x 30", x, 2, 1, 0, 2);
    }

    @Says("Two PLANS are made by themselves, each a new PLAN in place of the old one, by rolls one by one;")
    static void t3_anEmptyPlanTooComesInPlaceOfTheOldOne() {
        ReelSlitter x = sixtySlots();
        orders(x, 0, 0);
        is("greedy()", x.greedy(), 0);
        is("no SLOTS", x.plan(0), 0);
        x = sixtySlots();
        orders(x, 0, 0);
        is("fewest()", x.fewest(), 0);
        is("no SLOTS", x.plan(0), 0);
    }

    @Says("a roll of the same COUNTS as the latest SLOT makes that one ROLL more.")
    static void t3_alikeRollsAreOneSlot() {
        ReelSlitter x = desk(100, 0, 1, 50, 30);
        orders(x, 40, 1);
        is("greedy()", x.greedy(), 41);
        is("two SLOTS", x.plan(0), 2);
        counts("40 of one", x, 0, 40, 1, 0);
        counts("1 of the other", x, 1, 1, 0, 1);
        is("fewest()", x.fewest(), 41);
        is("two SLOTS", x.plan(0), 2);
        counts("40 of one", x, 0, 40, 1, 0);
    }

    @Says("a roll of the same COUNTS as the latest SLOT makes that one ROLL more.")
    static void t3_theOldPlansLatestSlotIsNone() {
        ReelSlitter x = desk(100, 0, 1, 50);
        orders(x, 2);
        x.slot(0, 7);
        is("greedy()", x.greedy(), 2);
        is("2 ROLLS, not 9", x.slotted(0, 0), 2);
        is("fewest()", x.fewest(), 2);
        is("2 ROLLS, not 4", x.slotted(0, 0), 2);
        is("slot() makes none of its own one more", x.slot(0, 3), 1);
        is("2 ROLLS, not 5", x.slotted(0, 0), 2);
    }

    /**
     * No 61st SLOT can come. GREEDY: two rolls that follow one another differ only if a WIDTH ends with the one
     * or with the other, so there are at most 13 SLOTS. FEWEST: 61 rolls within a product of 5000 have at most 4
     * WIDTHS and 81 pieces that are WANTED, so at least 41 of them bring one such piece; all that bring one of the
     * same WIDTH are of one PATTERN, the first that has it; so there are at most 24 SLOTS.
     */
    @Says("(If a 61st SLOT came, nothing is done.)")
    static void t3_no61stSlotComes() {
        int[][] wanted = {{40, 40, 1}, {40, 1, 40}, {1, 40, 40}, {40, 28, 1, 1}, {28, 1, 40, 1}, {16, 16, 16},
            {7, 7, 7, 7}, {4, 4, 4, 4, 4}, {3, 3, 3, 3, 3, 3}};
        for (int knives = 1; knives <= 4; knives++) {
            for (int[] pieces : wanted) {
                ReelSlitter x = desk(100, 0, knives, java.util.Arrays.copyOf(new int[] {47, 53, 35, 21, 64, 12}, pieces.length));
                orders(x, pieces);
                yes("greedy() is done", x.greedy() > 0);
                yes("at most 13", x.plan(0) <= 13);
                is("all are in it", x.plan(4) + x.plan(5), 0);
                yes("fewest() is done", x.fewest() > 0);
                yes("at most 24", x.plan(0) <= 24);
                is("all are in it", x.plan(4), 0);
            }
        }
    }

    // ---- GREEDY

    @Says("GREEDY: as long as something is WANTED (and not in the PLAN yet): a roll:")
    static void t3_greedyEndsWithTheLastPieceWanted() {
        ReelSlitter x = desk(100, 0, 2, 50);
        is("nothing", x.greedy(), 0);
        is("no SLOT", x.plan(0), 0);
        orders(x, 1);
        is("one piece", x.greedy(), 1);
        counts("one, though two have room", x, 0, 1, 1);
        orders(x, 40);
        is("40 pieces", x.greedy(), 20);
        orders(x, 39);
        is("39 pieces", x.greedy(), 20);
        counts("19 of two", x, 0, 19, 2);
        counts("one of one", x, 1, 1, 1);
        x.lot(2000, 1, false);
        is("cut", x.cut(0, 0, 1900), 0);
        is("38 are DONE", x.greedy(), 1);
        orders(x, 38);
        is("all are DONE", x.greedy(), 0);
    }

    @Says("for each WIDTH, the greatest first, as many pieces as are WANTED still and as there are room and KNIVES for.")
    static void t3_greedyTakesTheGreatestFirst() {
        ReelSlitter x = desk(100, 0, 2, 20, 60, 40);
        orders(x, 1, 1, 1);
        is("60 + 40, 20", x.greedy(), 2);
        counts("60 + 40", x, 0, 1, 0, 1, 1);
        counts("20", x, 1, 1, 1, 0, 0);
    }

    @Says("for each WIDTH, the greatest first, as many pieces as are WANTED still and as there are room and KNIVES for.")
    static void t3_greedyFillsTheRoomAndNoMore() {
        ReelSlitter x = desk(100, 5, 9, 60, 30);
        orders(x, 1, 4);
        is("60 + 30 fill 90", x.greedy(), 2);
        counts("60 + 30", x, 0, 1, 1, 1);
        counts("3 x 30", x, 1, 1, 0, 3);
        x = desk(100, 5, 9, 60, 31);
        orders(x, 1, 4);
        is("60 + 31 are above 90", x.greedy(), 3);
        counts("60", x, 0, 1, 1, 0);
        counts("2 x 31", x, 1, 2, 0, 2);
    }

    @Says("for each WIDTH, the greatest first, as many pieces as are WANTED still and as there are room and KNIVES for.")
    static void t3_greedyTakesAsManyAsKnives() {
        ReelSlitter x = desk(1000, 0, 3, 20, 10);
        orders(x, 2, 5);
        is("3 + 3 + 1", x.greedy(), 3);
        counts("2 x 20 + 10", x, 0, 1, 2, 1);
        counts("3 x 10", x, 1, 1, 0, 3);
        counts("10", x, 2, 1, 0, 1);
    }

    // ---- FEWEST

    @Says("FEWEST: as few rolls as can be of PATTERNS that FIT,")
    static void t3_fewestIsBelowGreedyWhereItCan() {
        ReelSlitter x = desk(100, 0, 10, 45, 36, 31);
        orders(x, 7, 3, 4);
        is("greedy()", x.greedy(), 7);
        is("fewest()", x.fewest(), 6);
        x = desk(100, 0, 3, 50, 30, 20);
        orders(x, 1, 1, 1);
        is("all in one roll that is full", x.fewest(), 1);
        yes("1 millimetre less", x.mill(99, 0, 3));
        is("no longer", x.fewest(), 2);
        yes("a knife less", x.mill(100, 0, 2));
        is("no longer", x.fewest(), 2);
    }

    @Says("so that of each WIDTH as many pieces as are WANTED, or more, come:")
    static void t3_fewestMayBringMore() {
        ReelSlitter x = desk(100, 0, 4, 30, 50);
        orders(x, 0, 1);
        is("one", x.fewest(), 1);
        counts("50 with a 30 that is not WANTED", x, 0, 1, 1, 1);
        is("beyond", x.plan(5), 1);
        orders(x, 0, 0);
        is("nothing is WANTED", x.fewest(), 0);
        is("nothing comes", x.plan(0), 0);
        orders(x, 4, 0);
        is("two", x.fewest(), 2);
        counts("6 for 4", x, 0, 2, 3, 0);
        is("beyond", x.plan(5), 2);
    }

    @Says("at each roll the first PATTERN by number with which, behind it, one roll fewer is enough.")
    static void t3_fewestTakesTheFirstByNumber() {
        ReelSlitter x = desk(100, 0, 4, 30, 50);
        orders(x, 3, 3);
        is("three", x.fewest(), 3);
        counts("3 x 30 would leave two rolls: the first number of all", x, 0, 1, 3, 0);
        counts("50 + 30 is ahead of 2 x 50", x, 1, 1, 1, 1);
        counts("2 x 50", x, 2, 1, 0, 2);
        orders(x, 3, 4);
        is("three", x.fewest(), 3);
        counts("3 x 30", x, 0, 1, 3, 0);
        counts("2 x 50", x, 1, 2, 0, 2);
    }

    private static ReelSlitter product5005() {
        ReelSlitter x = desk(100, 0, 1, 10, 20, 30, 40);
        orders(x, 4, 6, 10, 12);
        add(x, 3, 0, 0, 0, 1);
        x.lot(100, 1, false);
        return x;
    }

    @Says("(Not done, SPENT, if the product of WANTED and 1 of all WIDTHS is above 5000,")
    static void t3_aProductOf5000IsNotSpent() {
        ReelSlitter x = desk(100, 0, 1, 20, 30, 40);
        orders(x, 39, 24, 4);
        is("40 x 25 x 5 = 5000", x.fewest(), 67);
        refused("5 x 7 x 11 x 13 = 5005, the next product", -4, BoundaryTerms3Test::product5005, ReelSlitter::fewest);
        x = product5005();
        is("cut", x.cut(0, 0, 100), 0);
        is("one is DONE: 5 x 7 x 11 x 12 = 4620", x.fewest(), 31);
    }

    @Says("(Not done, SPENT, if the product of WANTED and 1 of all WIDTHS is above 5000,")
    static void t3_aProductBeyondAnIntIsSpent() {
        ReelSlitter x = desk(100, 0, 1, 10, 20, 30, 40, 50, 60);
        orders(x, 40, 40, 40, 40, 40, 40);
        is("41 to the 6th", x.fewest(), -4);
        orders(x, 31, 31, 31, 31, 31, 3);
        is("2 to the 27th", x.fewest(), -4);
        orders(x, 31, 31, 31, 31, 31, 31);
        is("2 to the 30th", x.fewest(), -4);
        orders(x, 31, 31, 31, 0, 0, 0);
        is("2 to the 15th", x.fewest(), -4);
    }

    private static ReelSlitter trials2000016() {
        ReelSlitter x = desk(330, 0, 11, 100, 2, 3, 4);
        orders(x, 1, 2, 16, 18);
        x.slot(0, 1);
        return x;
    }

    @Says("or that times the number of PATTERNS that FIT above 2000000.)")
    static void t3_productTimesPatternsOf2000000IsNotSpent() {
        ReelSlitter x = desk(702, 0, 12, 100, 2, 3);
        orders(x, 39, 24, 4);
        is("patterns()", x.patterns(), 400);
        is("5000 x 400 = 2000000", x.fewest(), 7);
        x = desk(312, 0, 8, 100, 2, 3, 4);
        orders(x, 39, 24, 4, 0);
        is("patterns()", x.patterns(), 401);
        is("5000 x 401", x.fewest(), -4);
        x = trials2000016();
        is("patterns()", x.patterns(), 1032);
        refused("2 x 3 x 17 x 19 x 1032 = 2000016, the next", -4, BoundaryTerms3Test::trials2000016, ReelSlitter::fewest);
        x.order(3, 17);
        is("2 x 3 x 17 x 18 x 1032", x.fewest(), 4);
    }

    @Says("FEWEST: as few rolls as can be of PATTERNS that FIT,")
    static void t3_fewestTakesNoPatternThatFitNoLonger() {
        ReelSlitter x = desk(100, 0, 3, 50, 30, 20);
        orders(x, 4, 2, 2);
        is("2 x 50, 50 + 30 + 20", x.fewest(), 3);
        yes("a millimetre less", x.mill(99, 0, 3));
        is("50 + 30, 50 + 30, 50 + 20, 50 + 20", x.fewest(), 4);
        yes("less than twice 20", x.mill(50, 6, 3));
        orders(x, 0, 2, 2);
        is("each alone", x.fewest(), 4);
        yes("a millimetre more on each side", x.mill(50, 5, 3));
        is("2 x 20", x.fewest(), 3);
        orders(x, 0, 0, 1);
        is("one", x.fewest(), 1);
        orders(x, 0, 0, 0);
        is("none", x.fewest(), 0);
    }

    // ---- CUTS and MOVES

    @Says("CUTS of a PATTERN: its pieces lie side by side from EDGE on, by numbers of their WIDTHS: "
            + "at EDGE, and behind each piece.")
    static void t3_cutsLieByNumbersOfWidths() {
        ReelSlitter x = desk(100, 5, 4, 20, 30);
        add(x, 1, 1, 1);
        is("5, 25, 55", x.slotted(0, 2), 3);
        add(x, 1, 1, 0);
        is("5, 25: no new ones", x.slotted(1, 2), 0);
        add(x, 1, 0, 1);
        is("5, 35: 35 is new", x.slotted(2, 2), 1);
        add(x, 1, 1, 1);
        is("5, 25, 55: 25 and 55 are new", x.slotted(3, 2), 2);
    }

    @Says("CUTS of a PATTERN: its pieces lie side by side from EDGE on, by numbers of their WIDTHS: "
            + "at EDGE, and behind each piece.")
    static void t3_fewestAndMostCuts() {
        ReelSlitter x = desk(100, 0, 20, 5);
        add(x, 1, 1);
        is("one piece: 0 and 5", x.slotted(0, 2), 2);
        add(x, 1, 20);
        is("20 pieces: 19 more", x.slotted(1, 2), 19);
        x.drop(0);
        is("20 pieces: 21 in all", x.slotted(0, 2), 21);
    }

    @Says("MOVES from one PATTERN to another: how many CUTS of the other one are no CUTS of the one;")
    static void t3_movesBetweenTheMostCuts() {
        ReelSlitter x = desk(100, 0, 20, 5, 4);
        add(x, 1, 20, 0);
        add(x, 1, 0, 20);
        add(x, 1, 20, 0);
        is("21 from nothing", x.slotted(0, 2), 21);
        is("0, 20, 40, 60, 80 are there", x.slotted(1, 2), 16);
        is("the last CUTS lie beyond all of the other", x.slotted(2, 2), 16);
        x.lot(1, 9, false);
        is("cut", x.cut(1, 0, 1), 0);
        is("from LATEST", x.slotted(0, 2), 16);
        yes("another EDGE", x.mill(150, 25, 20));
        add(x, 1, 20, 0);
        is("25 to 125 by 5s: 40, 60, 80 are there", x.slotted(0, 2), 18);
    }

    @Says("MOVES from one PATTERN to another: how many CUTS of the other one are no CUTS of the one;")
    static void t3_movesCountOneWay() {
        ReelSlitter x = desk(100, 0, 4, 50, 25);
        add(x, 1, 2, 0);
        add(x, 1, 0, 4);
        add(x, 1, 2, 0);
        add(x, 1, 2, 0);
        is("25 and 75 are new", x.slotted(1, 2), 2);
        is("back again: none is", x.slotted(2, 2), 0);
        is("to itself: none is", x.slotted(3, 2), 0);
    }

    @Says("from nothing: all its CUTS.")
    static void t3_fromNothingAllCutsMove() {
        ReelSlitter x = desk(100, 0, 4, 50, 25);
        add(x, 2, 2, 0);
        is("0, 50, 100", x.slotted(0, 2), 3);
        is("0, 50, 100", x.plan(3), 3);
        x.lot(100, 1, false);
        is("T is above its length", x.cut(0, 0, 101), 4);
        is("a refused cut is none", x.slotted(0, 2), 3);
        is("cut", x.cut(0, 0, 1), 0);
        is("from itself", x.slotted(0, 2), 0);
    }

    @Says("(LATEST's CUTS are as they were when it was cut.)")
    static void t3_anotherEdgeLeavesTheLatestCuts() {
        ReelSlitter x = desk(100, 5, 4, 30, 20);
        add(x, 1, 0, 4);
        x.lot(100, 1, false);
        is("cut at 5, 25, 45, 65, 85", x.cut(0, 0, 100), 0);
        yes("EDGE 10", x.mill(100, 10, 4));
        add(x, 1, 2, 1);
        is("10, 40, 70, 90", x.slotted(0, 2), 4);
        yes("EDGE 0", x.mill(100, 0, 4));
        add(x, 1, 0, 4);
        is("0, 20, 40, 60, 80", x.slotted(0, 2), 5);
        yes("EDGE 25 of another W", x.mill(130, 25, 4));
        add(x, 1, 0, 4);
        is("25, 45, 65, 85 and, new, 105", x.slotted(0, 2), 1);
        yes("EDGE 5", x.mill(105, 5, 4));
        add(x, 1, 0, 4);
        is("as it was cut", x.slotted(0, 2), 0);
    }

    // ---- the LINE

    @Says("LINE: the SLOTS (at most 8)")
    static void t3_8SlotsAreLined() {
        ReelSlitter x = desk(100, 0, 8, 10);
        for (int n = 8; n >= 1; n--) {
            add(x, n, n);
        }
        x.keep();
        is("8, each more than the next: as they stand", x.line(), 9);
        counts("the first", x, 0, 8, 8);
        counts("the last", x, 7, 1, 1);
        x.drop(-1);
        for (int n = 1; n <= 8; n++) {
            add(x, n, n);
        }
        is("the other way round: 2 + 7 likewise", x.line(), 9);
        counts("as they stand", x, 0, 1, 1);
        add(x, 9, 1);
        is("a 9th", x.line(), -1);
        yes("it goes", x.drop(8));
        is("8 again", x.line(), 9);
    }

    @Says("LINE: the SLOTS (at most 8)")
    static void t3_fewerSlotsAreLinedBehindMore() {
        ReelSlitter x = desk(100, 0, 5, 50, 25, 20, 30);
        int[][] slots = {{2, 0, 0, 0}, {0, 0, 5, 0}, {0, 4, 0, 0}, {0, 0, 0, 3}, {1, 1, 0, 0}, {0, 0, 1, 1}, {0, 1, 0, 2}, {1, 0, 0, 1}};
        int[] due = {0, 3, 7, 9, 11, 11, 12, 15, 16};
        int[][] order = {{}, {0}, {0, 1}, {0, 2, 1}, {0, 2, 1, 3}, {3, 1, 0, 2, 4}, {0, 2, 4, 5, 1, 3},
            {0, 2, 4, 5, 1, 3, 6}, {0, 2, 4, 5, 7, 1, 3, 6}};
        for (int s = 0; s < 8; s++) {
            add(x, s + 1, slots[s]);
        }
        x.keep();
        for (int size = 8; size >= 0; size--) {
            yes("undo()", x.undo());
            while (x.plan(0) > size) {
                x.drop(size);
            }
            is("the first " + size, x.line(), due[size]);
            is("the sum", x.plan(3), due[size]);
            for (int s = 0; s < size; s++) {
                is("of " + size + ", at " + s, x.slotted(s, 0), order[size][s] + 1);
            }
        }
    }

    @Says("in the order with the least sum of MOVES, from what was cut LATEST (nothing, ahead of any) on;")
    static void t3_lineBeginsAtTheLatestCut() {
        ReelSlitter x = desk(100, 0, 5, 50, 25, 20);
        add(x, 1, 2, 0, 0);
        add(x, 2, 0, 0, 5);
        add(x, 3, 0, 4, 0);
        is("as they stand", x.plan(3), 3 + 4 + 3);
        is("from nothing: 2 x 50, 4 x 25, 5 x 20", x.line(), 3 + 2 + 4);
        counts("2 x 50", x, 0, 1, 2, 0, 0);
        counts("4 x 25", x, 1, 3, 0, 4, 0);
        counts("5 x 20", x, 2, 2, 0, 0, 5);
        x.lot(100, 1, false);
        is("5 x 20 is cut", x.cut(2, 0, 100), 0);
        is("2 x 50, 4 x 25, 5 x 20 make 1 + 2 + 4, with 5 x 20 first 0 + 1 + 2", x.line(), 3);
        counts("5 x 20", x, 0, 1, 0, 0, 5);
        counts("2 x 50", x, 1, 1, 2, 0, 0);
        counts("4 x 25", x, 2, 3, 0, 4, 0);
    }

    @Says("of several the first, compared SLOT by SLOT by their numbers as they are now.")
    static void t3_ofSeveralOrdersTheFirst() {
        ReelSlitter x = desk(100, 0, 2, 30, 20);
        add(x, 1, 1, 0);
        add(x, 2, 0, 1);
        is("2 + 1 either way", x.line(), 3);
        counts("as it was", x, 0, 1, 1, 0);
        x.drop(0);
        add(x, 1, 1, 0);
        is("2 + 1 either way", x.line(), 3);
        counts("the other way round, as it was", x, 0, 2, 0, 1);
        x.drop(-1);
        for (int n = 1; n <= 8; n++) {
            add(x, n, 1, 1);
        }
        is("8 alike", x.line(), 3);
        for (int s = 0; s < 8; s++) {
            is("ROLLS of SLOT " + s, x.slotted(s, 0), s + 1);
        }
    }
}
