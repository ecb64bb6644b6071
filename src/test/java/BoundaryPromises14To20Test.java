/** Promises 14 to 20, sentence by sentence: the PLAN. */
public final class BoundaryPromises14To20Test extends DeskChecks {
    public static void main(String[] args) throws Exception {
        Boundaries.run(BoundaryPromises14To20Test.class);
    }

    /** 50 has room, 51 has none; 51 is WANTED so many times. A SLOT of 2 ROLLS of 50 is there. */
    private static ReelSlitter tight(int wantedOf51) {
        ReelSlitter x = desk(100, 25, 2, 50, 51);
        orders(x, 3, wantedOf51);
        x.slot(0, 2);
        x.lot(100, 9, false);
        return x;
    }

    private static ReelSlitter slots(int n) {
        ReelSlitter x = desk(100, 0, 2, 50, 30);
        orders(x, 2, 3);
        for (int s = 0; s < n; s++) {
            is("slot", add(x, s + 1, s % 2, 1), s);
        }
        return x;
    }

    // ---- promise 14

    @Says("GREEDY: how many rolls;")
    static void p14_howManyRolls() {
        ReelSlitter x = desk(100, 0, 1, 10, 20, 30, 40, 50, 60);
        is("nothing is WANTED", x.greedy(), 0);
        orders(x, 0, 0, 1, 0, 0, 0);
        is("one piece", x.greedy(), 1);
        orders(x, 40, 40, 40, 40, 40, 40);
        is("the most: 240 alone", x.greedy(), 240);
        is("ROLLS", x.plan(1), 240);
        is("SLOTS", x.plan(0), 6);
        counts("the greatest first", x, 0, 40, 0, 0, 0, 0, 0, 1);
        counts("the least last", x, 5, 40, 1, 0, 0, 0, 0, 0);
    }

    @Says("-2: there is a WIDTH that is WANTED and of which no piece has room alone;")
    static void p14_noRoomAlone() {
        refused("51 of 50", -2, () -> tight(1), ReelSlitter::greedy);
        refused("51 of 50", -2, () -> tight(40), ReelSlitter::greedy);
        ReelSlitter x = tight(0);
        is("51 is not WANTED", x.greedy(), 3);
        x = tight(1);
        yes("51 of 51", x.mill(101, 25, 2));
        is("has room", x.greedy(), 4);
        x = desk(100, 0, 2, 60);
        orders(x, 1);
        x.slot(0, 1);
        x.lot(100, 1, false);
        x.cut(0, 0, 100);
        yes("60 of 50", x.mill(100, 25, 2));
        is("has no room, but is DONE", x.greedy(), 0);
        orders(x, 2);
        is("and is WANTED again", x.greedy(), -2);
    }

    /** No 61st SLOT can come: BoundaryTerms3Test tells why. The most WIDTHS with the most changes stay far below. */
    @Says("-3: a 61st SLOT.")
    static void p14_no61stSlotComes() {
        ReelSlitter x = desk(1000, 0, 20, 101, 73, 59, 41, 29, 11);
        orders(x, 37, 39, 31, 40, 35, 38);
        yes("greedy() is done", x.greedy() > 0);
        yes("at most 13 SLOTS", x.plan(0) <= 13);
        is("none is missing, none beyond", x.plan(4) + x.plan(5), 0);
    }

    @Says("(Then nothing is done.)")
    static void p14_thenNothingIsDone() {
        ReelSlitter x = tight(1);
        x.keep();
        is("greedy()", x.greedy(), -2);
        is("SLOTS", x.plan(0), 1);
        counts("the old one", x, 0, 2, 1, 0);
        is("cut", x.cut(0, 0, 100), 0);
        is("greedy()", x.greedy(), -2);
        counts("the old one", x, 0, 1, 1, 0);
        yes("what is kept stays", x.undo());
        counts("as it was kept", x, 0, 2, 1, 0);
    }

    // ---- promise 15

    @Says("FEWEST: how many rolls;")
    static void p15_howManyRolls() {
        is("no WIDTHS", new ReelSlitter().fewest(), 0);
        ReelSlitter x = desk(100, 0, 1, 10, 20, 30);
        is("nothing is WANTED", x.fewest(), 0);
        orders(x, 0, 1, 0);
        is("one piece", x.fewest(), 1);
        orders(x, 40, 40, 1);
        is("the most: 41 x 41 x 2 = 3362", x.fewest(), 81);
        is("ROLLS", x.plan(1), 81);
        is("SLOTS", x.plan(0), 3);
    }

    @Says("-2: likewise; -3: likewise;")
    static void p15_noRoomAlone() {
        refused("51 of 50", -2, () -> tight(1), ReelSlitter::fewest);
        refused("51 of 50", -2, () -> tight(40), ReelSlitter::fewest);
        ReelSlitter x = tight(0);
        is("51 is not WANTED", x.fewest(), 3);
        x = tight(1);
        yes("51 of 51", x.mill(101, 25, 2));
        is("has room", x.fewest(), 4);
        x = desk(100, 25, 2, 51);
        orders(x, 1);
        is("no PATTERNS at all", x.fewest(), -2);
    }

    /** No 61st SLOT can come: BoundaryTerms3Test tells why. */
    @Says("-2: likewise; -3: likewise;")
    static void p15_no61stSlotComes() {
        ReelSlitter x = desk(100, 0, 2, 51, 49, 52, 26);
        orders(x, 40, 28, 1, 1);
        is("41 x 29 x 2 x 2 = 4756", x.fewest(), 41);
        yes("at most 24 SLOTS", x.plan(0) <= 24);
        is("none is missing", x.plan(4), 0);
    }

    private static ReelSlitter spentAndTight() {
        ReelSlitter x = desk(100, 25, 1, 51, 50, 49, 48);
        orders(x, 4, 6, 10, 12);
        x.slot(0, 3);
        x.lot(100, 2, false);
        return x;
    }

    private static ReelSlitter overfullAndTight() {
        ReelSlitter x = desk(1000, 250, 20, 1, 2, 3, 4, 501);
        x.order(4, 1);
        x.lot(100, 2, false);
        return x;
    }

    @Says("-4: SPENT, or no numbers (asked ahead of -2).")
    static void p15_spentIsAskedAheadOfNoRoom() {
        refused("5005, and 51 has no room", -4, BoundaryPromises14To20Test::spentAndTight, ReelSlitter::fewest);
        ReelSlitter x = spentAndTight();
        x.order(0, 3);
        is("4004, and 51 has no room", x.fewest(), -2);
        x.order(0, 0);
        is("1001, and 51 is not WANTED", x.fewest(), 28);
    }

    @Says("-4: SPENT, or no numbers (asked ahead of -2).")
    static void p15_noNumbersAreAskedAheadOfNoRoom() {
        refused("no numbers, and 501 has no room", -4, BoundaryPromises14To20Test::overfullAndTight, ReelSlitter::fewest);
        ReelSlitter x = overfullAndTight();
        is("no numbers", x.patterns(), -2);
        is("greedy() asks for room alone", x.greedy(), -2);
        x.order(4, 0);
        is("no numbers, and nothing is WANTED", x.fewest(), -4);
        yes("fewer KNIVES", x.mill(1000, 250, 2));
        x.order(4, 1);
        is("501 has no room", x.fewest(), -2);
        x.order(4, 0);
        is("nothing is WANTED", x.fewest(), 0);
        x = many(905);
        x.order(0, 1);
        is("3001", x.fewest(), -4);
        yes("3000", x.mill(904, 0, 10));
        is("3000", x.fewest(), 1);
    }

    // ---- promise 16

    @Says("A SLOT more, of PATTERN k, n ROLLS: its number.")
    static void p16_itsNumber() {
        ReelSlitter x = busy();
        int last = x.patterns() - 1;
        is("slot(0, 1)", x.slot(0, 1), 2);
        is("slot(0, 1): the same is a SLOT of its own", x.slot(0, 1), 3);
        is("slot(last, 1000)", x.slot(last, 1000), 4);
        counts("the first PATTERN", x, 2, 1, 3, 0, 0);
        counts("the first PATTERN", x, 3, 1, 3, 0, 0);
        counts("the last PATTERN", x, 4, 1000, 0, 0, 1);
        counts("those ahead stay", x, 1, 4, 0, 0, 4);
    }

    @Says("NONE: not as told, there are 60.")
    static void p16_notAsTold() {
        int all = busy().patterns();
        refused("slot(-1, 1)", -1, x -> x.slot(-1, 1));
        refused("slot(all, 1)", -1, x -> x.slot(all, 1));
        refused("slot(MIN, 1)", -1, x -> x.slot(MIN, 1));
        refused("slot(MAX, 1)", -1, x -> x.slot(MAX, 1));
        refused("slot(0, 0)", -1, x -> x.slot(0, 0));
        refused("slot(0, 1001)", -1, x -> x.slot(0, 1001));
        refused("slot(MIN, MIN)", -1, x -> x.slot(MIN, MIN));
        refused("slot(MAX, MAX)", -1, x -> x.slot(MAX, MAX));
        is("no PATTERNS", new ReelSlitter().slot(0, 1), -1);
        is("the last one", busy().slot(all - 1, 1), 2);
    }

    @Says("NONE: not as told, there are 60.")
    static void p16_thereAre60() {
        is("the 60th", slots(59).slot(0, 1), 59);
        refused("the 61st", -1, () -> slots(60), x -> x.slot(0, 1));
        ReelSlitter x = slots(60);
        x.lot(100, 1, false);
        is("the first has one ROLL", x.cut(0, 0, 100), 0);
        is("59 are left", x.plan(0), 59);
        is("the 60th", x.slot(0, 7), 59);
        is("the 61st", x.slot(0, 7), -1);
        counts("the 60th", x, 59, 7, 2, 0);
    }

    // ---- promise 17

    @Says("A SLOT goes, later ones come up;")
    static void p17_laterOnesComeUp() {
        ReelSlitter x = slots(60);
        yes("the last of 60", x.drop(59));
        is("59", x.plan(0), 59);
        is("58 is the last", x.slotted(58, 0), 59);
        yes("the first", x.drop(0));
        is("the second comes up", x.slotted(0, 0), 2);
        is("all do", x.slotted(57, 0), 59);
        is("58 are left", x.slotted(58, 0), -1);
        yes("one between", x.drop(30));
        is("those ahead stay", x.slotted(29, 0), 31);
        is("later ones come up", x.slotted(30, 0), 33);
        x = slots(1);
        yes("the only one", x.drop(0));
        is("none is left", x.plan(0), 0);
        no("none is there", x.drop(0));
    }

    @Says("(s NONE) all go.")
    static void p17_allGo() {
        ReelSlitter x = slots(60);
        yes("drop(-1)", x.drop(-1));
        is("none is left", x.plan(0), 0);
        is("no ROLLS", x.plan(1), 0);
        is("a first one", x.slot(0, 1), 0);
        yes("drop(NONE)", x.drop(ReelSlitter.NONE));
        is("none is left", x.plan(0), 0);
        yes("of none, too", x.drop(-1));
        yes("of a new desk, too", new ReelSlitter().drop(-1));
    }

    @Says("False: no such one.")
    static void p17_noSuchOne() {
        refused("drop(2) of 2", 0, x -> bit(x.drop(2)));
        refused("drop(-2)", 0, x -> bit(x.drop(-2)));
        refused("drop(60)", 0, () -> slots(60), x -> bit(x.drop(60)));
        refused("drop(MIN)", 0, x -> bit(x.drop(MIN)));
        refused("drop(MAX)", 0, x -> bit(x.drop(MAX)));
        yes("drop(1) of 2", busy().drop(1));
        no("drop(0) of none", new ReelSlitter().drop(0));
    }

    // ---- promise 18

    @Says("Of SLOT s, what 0 ROLLS, 1 WASTE of one,")
    static void p18_rollsAndWaste() {
        ReelSlitter x = busy();
        is("ROLLS of the first", x.slotted(0, 0), 2);
        is("WASTE of one of the first", x.slotted(0, 1), 20);
        is("ROLLS of the last", x.slotted(1, 0), 4);
        is("WASTE of one of the last", x.slotted(1, 1), 80);
        x = desk(10000, 0, 1, 10000, 1);
        x.slot(0, 1);
        x.slot(1, 1000);
        is("no WASTE", x.slotted(0, 1), 0);
        is("the most WASTE, of one", x.slotted(1, 1), 9999);
    }

    @Says("2 MOVES to it from the SLOT ahead (of the first one from what was cut LATEST),")
    static void p18_movesOfTheFirstAndOfLaterOnes() {
        ReelSlitter x = desk(100, 5, 4, 30, 20);
        add(x, 2, 3, 0);
        add(x, 1, 2, 1);
        add(x, 8, 0, 4);
        is("from nothing: 5, 35, 65, 95", x.slotted(0, 2), 4);
        is("85 is new", x.slotted(1, 2), 1);
        is("25 and 45 are new, 5, 65, 85 are not", x.slotted(2, 2), 2);
        x.lot(100, 9, false);
        is("4 x 20 is cut", x.cut(2, 0, 100), 0);
        is("from LATEST: 35 and 95 are new", x.slotted(0, 2), 2);
        is("of later ones from the SLOT ahead", x.slotted(2, 2), 2);
        yes("the first goes", x.drop(0));
        is("the next is the first: 35 is new", x.slotted(0, 2), 1);
    }

    @Says("3 pieces in all, 10 + i COUNT of WIDTH i.")
    static void p18_piecesAndCounts() {
        ReelSlitter x = desk(100, 0, 20, 1, 2, 3, 4, 5, 6);
        yes("no numbers, so GREEDY is used", x.patterns() == -2);
        orders(x, 1, 2, 3, 4, 5, 5);
        is("20 pieces in one", x.greedy(), 1);
        is("pieces", x.slotted(0, 3), 20);
        for (int i = 0; i < 6; i++) {
            is("COUNT of WIDTH " + i, x.slotted(0, 10 + i), i == 5 ? 5 : i + 1);
        }
        x = desk(100, 0, 20, 1);
        x.slot(19, 1);
        is("1 piece", x.slotted(0, 3), 1);
        x.slot(0, 9);
        is("20 pieces of one roll", x.slotted(1, 3), 20);
        is("COUNT", x.slotted(1, 10), 20);
    }

    @Says("NONE: no such ones.")
    static void p18_noSuchOnes() {
        ReelSlitter x = busy();
        for (int what : new int[] {-1, 4, 5, 9, 13, 14, 15, 16, MIN, MAX, MIN + 10}) {
            is("slotted(0, " + what + ")", x.slotted(0, what), -1);
        }
        for (int s : new int[] {-1, 2, 60, MIN, MAX}) {
            for (int what : new int[] {0, 1, 2, 3, 10, 11, 12}) {
                is("slotted(" + s + ", " + what + ")", x.slotted(s, what), -1);
            }
        }
        is("the third WIDTH is the last", x.slotted(1, 12), 4);
        is("the 60th SLOT", slots(60).slotted(59, 0), 60);
        is("the 61st", slots(60).slotted(60, 0), -1);
        x = desk(100, 0, 1, 1, 2, 3, 4, 5, 6);
        x.slot(5, 1);
        is("the 6th WIDTH", x.slotted(0, 15), 1);
        is("a 7th", x.slotted(0, 16), -1);
    }

    // ---- promise 19

    @Says("Of the PLAN: 0 SLOTS, 1 ROLLS, 2 WASTE of all, 3 MOVES of all,")
    static void p19_fromAnEmptyPlanToAFullOne() {
        ReelSlitter x = desk(10000, 0, 1, 1);
        for (int what = 0; what <= 3; what++) {
            is("empty: plan(" + what + ")", x.plan(what), 0);
        }
        for (int s = 0; s < 60; s++) {
            x.slot(0, 1000);
        }
        is("SLOTS", x.plan(0), 60);
        is("ROLLS", x.plan(1), 60000);
        is("WASTE", x.plan(2), 60000 * 9999);
        is("MOVES", x.plan(3), 2);
        x = desk(100, 5, 4, 30, 20);
        add(x, 2, 3, 0);
        add(x, 3, 1, 2);
        add(x, 1, 3, 0);
        is("SLOTS", x.plan(0), 3);
        is("ROLLS", x.plan(1), 6);
        is("WASTE", x.plan(2), 2 * 10 + 3 * 30 + 10);
        is("MOVES: 4, then 55 and 75, then 65 and 95", x.plan(3), 8);
        x.lot(100, 9, false);
        is("3 x 30 is cut", x.cut(2, 0, 100), 0);
        is("MOVES from LATEST: 0, then 55 and 75", x.plan(3), 2);
    }

    @Says("4 pieces that are WANTED and not in it,")
    static void p19_wantedAndNotInIt() {
        ReelSlitter x = desk(100, 0, 2, 50, 30);
        is("nothing is WANTED", x.plan(4), 0);
        orders(x, 40, 40);
        is("all are WANTED", x.plan(4), 80);
        add(x, 3, 2, 0);
        is("6 of 40 are in it", x.plan(4), 34 + 40);
        orders(x, 7, 1);
        is("6 of 7, 0 of 1", x.plan(4), 2);
        orders(x, 6, 1);
        is("6 of 6, 0 of 1", x.plan(4), 1);
        orders(x, 5, 1);
        is("6 of 5 do not make up for another WIDTH", x.plan(4), 1);
        x.lot(100, 9, false);
        orders(x, 7, 0);
        is("cut", x.cut(0, 0, 100), 0);
        is("2 are DONE, 4 are in it, one is missing", x.plan(4), 1);
    }

    @Says("5 pieces in it beyond what is WANTED.")
    static void p19_beyondWhatIsWanted() {
        ReelSlitter x = desk(100, 0, 2, 50, 30);
        is("none is in it", x.plan(5), 0);
        add(x, 3, 2, 0);
        is("nothing is WANTED", x.plan(5), 6);
        orders(x, 5, 0);
        is("6 of 5", x.plan(5), 1);
        orders(x, 6, 9);
        is("6 of 6, and 9 that are missing", x.plan(5), 0);
        orders(x, 7, 9);
        is("6 of 7", x.plan(5), 0);
        x.lot(300, 9, false);
        is("6 are DONE, 4 are in it", x.cut(0, 0, 300), 0);
        is("1 is WANTED still", x.plan(5), 3);
        orders(x, 0, 9);
        is("none is WANTED: not below 0", x.plan(5), 4);
    }

    @Says("NONE for others.")
    static void p19_others() {
        ReelSlitter x = busy();
        for (int what : new int[] {-1, 6, 7, 10, MIN, MAX}) {
            is("plan(" + what + ")", x.plan(what), -1);
        }
        is("the last that is told: 16 of 30 are in it, 1 is WANTED", x.plan(5), 15);
    }

    // ---- promise 20

    @Says("LINE: the SLOTS come into that order: the sum of MOVES.")
    static void p20_theSumIsThatOfThePlan() {
        ReelSlitter x = new ReelSlitter();
        is("no SLOTS", x.line(), 0);
        x = slots(1);
        is("one SLOT", x.line(), 2);
        counts("stays", x, 0, 1, 0, 1);
        x = desk(100, 0, 4, 50, 25);
        add(x, 5, 0, 4);
        add(x, 6, 2, 0);
        x.lot(100, 1, false);
        is("2 x 50 is cut", x.cut(1, 0, 100), 0);
        is("2 + 0", x.plan(3), 2);
        is("0 + 2 is no better: as it was", x.line(), 2);
        counts("4 x 25", x, 0, 5, 0, 4);
        add(x, 7, 0, 1);
        is("2 + 0 + 1", x.plan(3), 3);
        is("4 x 25, 25, 2 x 50 make 2 + 0 + 2; 2 x 50, 4 x 25, 25 make 0 + 2 + 0", x.line(), 2);
        counts("2 x 50", x, 0, 5, 2, 0);
        counts("4 x 25", x, 1, 5, 0, 4);
        counts("25", x, 2, 7, 0, 1);
        is("the sum", x.plan(3), 2);
    }

    @Says("NONE: there are more than 8.")
    static void p20_moreThan8() {
        is("8: 2 for 30 alone, 2 more for 50 + 30", slots(8).line(), 4);
        refused("9", -1, () -> slots(9), ReelSlitter::line);
        refused("60", -1, () -> slots(60), ReelSlitter::line);
    }
}
