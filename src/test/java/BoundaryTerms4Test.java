/** Paragraph 4 of the terms: the STOCK, what a cut does, and the AREAS. */
public final class BoundaryTerms4Test extends DeskChecks {
    public static void main(String[] args) throws Exception {
        Boundaries.run(BoundaryTerms4Test.class);
    }

    /** LENGTH 10, a SLOT of two 30s and a 20 with 9 ROLLS. */
    private static ReelSlitter slitting() {
        ReelSlitter x = desk(100, 5, 4, 30, 20);
        orders(x, 40, 40);
        yes("length", x.length(10));
        add(x, 9, 2, 1);
        return x;
    }

    private static ReelSlitter withLots(int lots) {
        ReelSlitter x = slitting();
        for (int l = 0; l < lots; l++) {
            is("lot", x.lot(100 + l, 3, l % 2 == 1), l);
        }
        return x;
    }

    private static int lots(ReelSlitter x) {
        int n = 0;
        while (n < 9 && x.lotted(n, 0) != -1) {
            n++;
        }
        return n;
    }

    // ---- LOTS

    @Says("STOCK: LOTS (at most 8,")
    static void t4_atMost8Lots() {
        ReelSlitter x = withLots(7);
        is("an 8th", x.lot(5, 0, true), 7);
        is("a 9th", x.lot(5, 1, true), -1);
        is("8", lots(x), 8);
        refused("a 9th", -1, () -> withLots(8), y -> y.lot(5, 1, true));
        x = withLots(7);
        is("cut", x.cut(0, 0, 50), 0);
        is("the 8th came back", lots(x), 8);
        is("a 9th", x.lot(5, 1, true), -1);
    }

    @Says("numbered from 0 on as they come;")
    static void t4_lotsAreNumberedAsTheyCome() {
        ReelSlitter x = slitting();
        is("none yet", x.lotted(0, 0), -1);
        is("the first", x.lot(70, 1, false), 0);
        is("the second", x.lot(60, 1, true), 1);
        is("cut", x.cut(0, 0, 40), 0);
        is("the third came back", x.lotted(2, 0), 30);
        is("the fourth", x.lot(90, 1, false), 3);
        is("the first stays", x.lotted(0, 0), 70);
        is("the second stays", x.lotted(1, 0), 60);
    }

    @Says("a LOT of no rolls stays):")
    static void t4_aLotOfNoRollsStays() {
        ReelSlitter x = slitting();
        is("of none at first", x.lot(70, 0, true), 0);
        is("of one", x.lot(60, 1, false), 1);
        is("cut", x.cut(0, 1, 60), 0);
        is("none is left", x.lotted(1, 1), 0);
        is("its metres stay", x.lotted(1, 0), 60);
        is("so does the other one", x.lotted(0, 0), 70);
        is("both have their numbers", x.lot(50, 1, false), 2);
        for (int l = 3; l < 8; l++) {
            is("lot", x.lot(1, 0, false), l);
        }
        is("they count among the 8", x.lot(1, 1, false), -1);
    }

    @Says("a length in metres (1 to 100000),")
    static void t4_metresAre1To100000() {
        refused("lot(0, 1, false)", -1, x -> x.lot(0, 1, false));
        refused("lot(-1, 1, false)", -1, x -> x.lot(-1, 1, false));
        refused("lot(MIN, 1, false)", -1, x -> x.lot(MIN, 1, false));
        refused("lot(100001, 1, true)", -1, x -> x.lot(100001, 1, true));
        refused("lot(MAX, 1, true)", -1, x -> x.lot(MAX, 1, true));
        ReelSlitter x = slitting();
        is("lot(1, 1, false)", x.lot(1, 1, false), 0);
        is("1 metre", x.lotted(0, 0), 1);
        is("lot(100000, 1, false)", x.lot(100000, 1, false), 1);
        is("100000 metres", x.lotted(1, 0), 100000);
        is("all of them are cut", x.cut(0, 1, 100000), 0);
        is("SETS", x.area(5), 10000);
    }

    @Says("so many rolls (0 to 1000),")
    static void t4_rollsAre0To1000() {
        refused("lot(50, -1, false)", -1, x -> x.lot(50, -1, false));
        refused("lot(50, MIN, false)", -1, x -> x.lot(50, MIN, false));
        refused("lot(50, 1001, true)", -1, x -> x.lot(50, 1001, true));
        refused("lot(50, MAX, true)", -1, x -> x.lot(50, MAX, true));
        ReelSlitter x = slitting();
        is("lot(50, 0, false)", x.lot(50, 0, false), 0);
        is("no rolls", x.lotted(0, 1), 0);
        is("lot(50, 1000, false)", x.lot(50, 1000, false), 1);
        is("1000 rolls", x.lotted(1, 1), 1000);
        is("cut", x.cut(0, 1, 50), 0);
        is("999 rolls", x.lotted(1, 1), 999);
    }

    @Says("FLAWED or not.")
    static void t4_aLotIsFlawedOrNot() {
        ReelSlitter x = slitting();
        x.lot(50, 1, true);
        x.lot(50, 1, false);
        is("FLAWED", x.lotted(0, 2), 1);
        is("not FLAWED", x.lotted(1, 2), 0);
        x.strip(0, 100);
        is("a FLAWED roll all of STRIP", x.cut(0, 0, 50), 5);
        is("a roll without a flaw", x.cut(0, 1, 50), 0);
    }

    // ---- what a cut does

    @Says("To CUT a roll of a LOT by a SLOT's PATTERN to T metres: T / LENGTH (whole part) SETS come:")
    static void t4_setsAreTheWholePart() {
        int[][] due = {{1, 0}, {9, 0}, {10, 1}, {11, 1}, {19, 1}, {20, 2}, {99, 9}, {100, 10}};
        for (int[] d : due) {
            ReelSlitter x = withLots(1);
            is("cut(0, 0, " + d[0] + ")", x.cut(0, 0, d[0]), 0);
            is("SETS of " + d[0] + " metres", x.area(5), d[1]);
        }
    }

    @Says("of each WIDTH COUNTS times SETS pieces are DONE.")
    static void t4_countsTimesSetsAreDone() {
        ReelSlitter x = withLots(1);
        is("cut to 9", x.cut(0, 0, 9), 0);
        is("no SET, nothing is DONE", x.about(0, 2) + x.about(1, 2), 0);
        yes("so LENGTH may change", x.length(10));
        is("cut to 39", x.cut(0, 0, 39), 0);
        is("2 x 3 of 30", x.about(0, 2), 6);
        is("1 x 3 of 20", x.about(1, 2), 3);
        is("WANTED", x.about(0, 3), 34);
        is("cut to 100", x.cut(0, 0, 100), 0);
        is("2 x 10 more", x.about(0, 2), 26);
        is("1 x 10 more", x.about(1, 2), 13);
        add(x, 1, 0, 4);
        x.lot(100, 1, false);
        is("cut by 4 x 20", x.cut(1, x.lot(10, 1, false), 10), 0);
        is("none of 30", x.about(0, 2), 26);
        is("4 of 20", x.about(1, 2), 17);
    }

    @Says("What is left (length less T): if it is LENGTH at least, a LOT of one roll of that length comes")
    static void t4_lengthAtLeastComesBack() {
        ReelSlitter x = withLots(1);
        is("9 are left", x.cut(0, 0, 91), 0);
        is("no LOT", lots(x), 1);
        is("nothing is left", x.cut(0, 0, 100), 0);
        is("no LOT", lots(x), 1);
        x = withLots(1);
        is("10 are left", x.cut(0, 0, 90), 0);
        is("a LOT", lots(x), 2);
        is("of 10 metres", x.lotted(1, 0), 10);
        is("of one roll", x.lotted(1, 1), 1);
        is("11 are left", x.cut(0, 0, 89), 0);
        is("of 11 metres", x.lotted(2, 0), 11);
        is("99 are left", x.cut(0, 0, 1), 0);
        is("of 99 metres", x.lotted(3, 0), 99);
        is("what came back may be cut", x.cut(0, 3, 89), 0);
        is("of 10 metres", x.lotted(4, 0), 10);
        is("no roll of 99 is left", x.lotted(3, 1), 0);
    }

    @Says("(FLAWED, if it was);")
    static void t4_whatComesBackIsFlawedIfItWas() {
        ReelSlitter x = withLots(2);
        is("cut", x.cut(0, 0, 50), 0);
        is("not FLAWED", x.lotted(2, 2), 0);
        is("cut", x.cut(0, 1, 50), 0);
        is("FLAWED", x.lotted(3, 2), 1);
        is("cut", x.cut(0, 3, 20), 0);
        is("FLAWED still", x.lotted(4, 2), 1);
    }

    @Says("else (also if there are 8 LOTS) it is LOST.")
    static void t4_with8LotsItIsLost() {
        ReelSlitter x = withLots(7);
        is("7 LOTS", x.cut(0, 0, 50), 0);
        is("BACK", x.area(2), 100 * 50);
        is("an 8th came", lots(x), 8);
        is("8 LOTS", x.cut(0, 0, 50), 0);
        is("nothing more came BACK", x.area(2), 100 * 50);
        is("LOST: 20 aside of 5 SETS twice, and all of 50 metres", x.area(3), 2 * 50 * 20 + 100 * 50);
        is("8", lots(x), 8);
        for (int l = 1; l < 8; l++) {
            is("the others stay", x.lotted(l, 1), l == 7 ? 1 : 3);
        }
        x = withLots(1);
        is("9 are left", x.cut(0, 0, 91), 0);
        is("LOST: 20 aside of 9 SETS, 1 metre behind them, and 9", x.area(3), 90 * 20 + 100 * 10);
    }

    @Says("The SLOT has one ROLL less (without any it goes, later ones come up).")
    static void t4_aSlotWithoutRollsGoes() {
        ReelSlitter x = desk(100, 0, 2, 50, 30);
        add(x, 2, 2, 0);
        add(x, 5, 1, 1);
        add(x, 1, 0, 1);
        x.lot(100, 9, false);
        is("cut", x.cut(0, 0, 100), 0);
        counts("one ROLL is left", x, 0, 1, 2, 0);
        is("3 SLOTS", x.plan(0), 3);
        is("cut", x.cut(0, 0, 1), 0);
        is("2 SLOTS", x.plan(0), 2);
        counts("later ones come up", x, 0, 5, 1, 1);
        counts("later ones come up", x, 1, 1, 0, 1);
        is("the last one", x.cut(1, 0, 100), 0);
        is("1 SLOT", x.plan(0), 1);
        counts("the one ahead stays", x, 0, 5, 1, 1);
        is("no such one", x.cut(1, 0, 100), 1);
    }

    // ---- AREAS

    @Says("AREAS, in millimetres times metres: TAKEN is W times the length;")
    static void t4_takenIsTheWholeRoll() {
        ReelSlitter x = withLots(1);
        is("nothing yet", x.area(0), 0);
        is("cut to 1", x.cut(0, 0, 1), 0);
        is("all of it is TAKEN", x.area(0), 100 * 100);
        is("cut to 100", x.cut(0, 0, 100), 0);
        is("and once more", x.area(0), 2 * 100 * 100);
        is("a cut that is refused", x.cut(0, 0, 101), 4);
        is("takes nothing", x.area(0), 2 * 100 * 100);
        is("the rest of 99 is TAKEN again", x.cut(0, 1, 99), 0);
        is("W times 99", x.area(0), 2 * 100 * 100 + 100 * 99);
    }

    @Says("USED LENGTH times SETS times the pieces' widths;")
    static void t4_usedIsWhatThePiecesHave() {
        ReelSlitter x = withLots(1);
        is("cut to 9", x.cut(0, 0, 9), 0);
        is("no SET", x.area(1), 0);
        is("cut to 10", x.cut(0, 0, 10), 0);
        is("one SET", x.area(1), 10 * 80);
        is("cut to 99", x.cut(0, 0, 99), 0);
        is("9 more", x.area(1), 10 * 10 * 80);
    }

    @Says("BACK W times the length of the LOT that came;")
    static void t4_backIsWhatCame() {
        ReelSlitter x = withLots(1);
        is("9 are left", x.cut(0, 0, 91), 0);
        is("none came", x.area(2), 0);
        is("10 are left", x.cut(0, 0, 90), 0);
        is("10 came", x.area(2), 100 * 10);
        is("99 are left", x.cut(0, 0, 1), 0);
        is("99 more", x.area(2), 100 * 109);
    }

    @Says("LOST all else.")
    static void t4_lostIsAllElse() {
        ReelSlitter x = desk(100, 0, 2, 50);
        yes("length", x.length(10));
        x.slot(0, 9);
        x.lot(100, 9, false);
        is("nothing yet", x.area(3), 0);
        is("a full roll, to its end", x.cut(0, 0, 100), 0);
        is("nothing is LOST", x.area(3), 0);
        is("the rest comes back", x.cut(0, 0, 90), 0);
        is("nothing is LOST", x.area(3), 0);
        is("1 metre behind the SETS", x.cut(0, 0, 81), 0);
        is("LOST", x.area(3), 100);
        is("9 metres behind the SETS, 1 left", x.cut(0, 0, 99), 0);
        is("LOST", x.area(3), 100 + 100 * 10);
        is("all is accounted for", x.area(1) + x.area(2) + x.area(3), x.area(0));
    }

    @Says("LOST all else.")
    static void t4_areasGoBeyondAnInt() {
        ReelSlitter x = desk(10000, 0, 20, 1);
        x.slot(19, 1000);
        x.lot(100000, 1000, false);
        for (int n = 0; n < 3; n++) {
            is("cut", x.cut(0, 0, 99999), 0);
        }
        is("TAKEN", x.area(0), 3000000000L);
        is("USED", x.area(1), 3L * 100 * 999);
        is("BACK", x.area(2), 0);
        is("LOST", x.area(3), 3000000000L - 299700);
        x.length(1);
        is("something is DONE: LENGTH is still 100", x.cut(0, 0, 100), 0);
        is("BACK", x.area(2), 10000L * 99900);
    }
}
