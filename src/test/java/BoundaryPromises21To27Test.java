/** Promises 21 to 27, sentence by sentence: the STOCK, cuts, AREAS, what is kept, and shares. */
public final class BoundaryPromises21To27Test extends DeskChecks {
    public static void main(String[] args) throws Exception {
        Boundaries.run(BoundaryPromises21To27Test.class);
    }

    private static ReelSlitter lots(int n) {
        ReelSlitter x = desk(100, 0, 2, 50);
        x.slot(0, 9);
        x.keep();
        for (int l = 0; l < n; l++) {
            is("lot", x.lot(200 + l, l, l % 2 == 0), l);
        }
        return x;
    }

    // ---- promise 21

    @Says("A LOT more: its number;")
    static void p21_itsNumber() {
        ReelSlitter x = lots(7);
        is("the least", x.lot(1, 0, false), 7);
        is("metres", x.lotted(7, 0), 1);
        is("rolls", x.lotted(7, 1), 0);
        x = lots(7);
        is("the most", x.lot(100000, 1000, true), 7);
        is("metres", x.lotted(7, 0), 100000);
        is("rolls", x.lotted(7, 1), 1000);
        x = lots(0);
        is("the first", x.lot(5, 5, true), 0);
        is("alike is another one", x.lot(5, 5, true), 1);
        is("both", x.lotted(0, 1) + x.lotted(1, 1), 10);
    }

    @Says("NONE: not as told, there are 8.")
    static void p21_notAsTold() {
        refused("metres 0", -1, x -> x.lot(0, 5, true));
        refused("metres 100001", -1, x -> x.lot(100001, 5, true));
        refused("rolls -1", -1, x -> x.lot(5, -1, false));
        refused("rolls 1001", -1, x -> x.lot(5, 1001, false));
        refused("both MIN", -1, x -> x.lot(MIN, MIN, true));
        refused("both MAX", -1, x -> x.lot(MAX, MAX, false));
    }

    @Says("NONE: not as told, there are 8.")
    static void p21_thereAre8() {
        is("an 8th", lots(7).lot(5, 5, true), 7);
        refused("a 9th", -1, () -> lots(8), x -> x.lot(5, 5, true));
        refused("a 9th of no rolls", -1, () -> lots(8), x -> x.lot(5, 0, false));
    }

    // ---- promise 22

    @Says("Of a LOT, what 0 metres, 1 rolls, 2 whether FLAWED.")
    static void p22_eachOfThem() {
        ReelSlitter x = lots(8);
        for (int l = 0; l < 8; l++) {
            is("metres", x.lotted(l, 0), 200 + l);
            is("rolls", x.lotted(l, 1), l);
            is("FLAWED", x.lotted(l, 2), l % 2 == 0 ? 1 : 0);
        }
    }

    @Says("NONE: no such ones.")
    static void p22_noSuchOnes() {
        ReelSlitter x = lots(2);
        for (int l : new int[] {-1, 2, 7, 8, MIN, MAX}) {
            for (int what = 0; what <= 2; what++) {
                is("lotted(" + l + ", " + what + ")", x.lotted(l, what), -1);
            }
        }
        for (int what : new int[] {-1, 3, MIN, MAX}) {
            is("lotted(1, " + what + ")", x.lotted(1, what), -1);
        }
        is("the 8th of 8", lots(8).lotted(7, 0), 207);
        is("a 9th", lots(8).lotted(8, 0), -1);
    }

    // ---- promise 23

    /** On the busy desk SLOT 0 (3 x 60) fits no FLAWED roll, SLOT 1 (4 x 30) does; LOT 0 is FLAWED, LOT 1 has no rolls. */
    @Says("A roll is CUT by a SLOT's PATTERN, of a LOT, to T metres: 0;")
    static void p23_cut() {
        ReelSlitter x = busy();
        is("T 1", x.cut(1, 2, 1), 0);
        is("999 come back", x.lotted(4, 0), 999);
        is("T its length", x.cut(1, 2, 1000), 0);
        is("no rolls are left", x.lotted(2, 1), 0);
        is("FLAWED, and it FITS such", x.cut(1, 0, 95), 0);
        is("not FLAWED, and it FITS no FLAWED one", x.cut(0, 4, 999), 0);
        is("rolls CUT", x.area(4), 5);
        is("SETS", x.area(5), 2 + 0 + 100 + 9 + 99);
        is("ROLLS", x.plan(1), 1 + 1);
    }

    @Says("or the first of these: 1 no such SLOT;")
    static void p23_noSuchSlot() {
        refused("cut(2, 2, 10)", 1, x -> x.cut(2, 2, 10));
        refused("cut(-1, 2, 10)", 1, x -> x.cut(-1, 2, 10));
        refused("cut(MIN, 2, 10)", 1, x -> x.cut(MIN, 2, 10));
        refused("cut(MAX, 2, 10)", 1, x -> x.cut(MAX, 2, 10));
        refused("ahead of 2", 1, x -> x.cut(2, 9, 10));
        refused("ahead of 3", 1, x -> x.cut(2, 1, 10));
        refused("ahead of 4", 1, x -> x.cut(2, 2, 0));
        refused("ahead of all", 1, x -> x.cut(MIN, MIN, MIN));
        is("the last SLOT", busy().cut(1, 2, 10), 0);
        is("no SLOTS", new ReelSlitter().cut(0, 0, 1), 1);
    }

    @Says("2 no such LOT;")
    static void p23_noSuchLot() {
        refused("cut(0, 4, 10)", 2, x -> x.cut(0, 4, 10));
        refused("cut(0, -1, 10)", 2, x -> x.cut(0, -1, 10));
        refused("cut(0, MIN, 10)", 2, x -> x.cut(0, MIN, 10));
        refused("cut(0, MAX, 10)", 2, x -> x.cut(0, MAX, 10));
        refused("ahead of 4", 2, x -> x.cut(0, 4, 0));
        is("the last LOT", busy().cut(1, 3, 10), 0);
        refused("the 9th of 8", 2, () -> lots(8), x -> x.cut(0, 8, 10));
        is("the 8th of 8", lots(8).cut(0, 7, 10), 0);
    }

    private static ReelSlitter noRollsButFlawed() {
        ReelSlitter x = busy();
        is("a FLAWED LOT of no rolls", x.lot(50, 0, true), 4);
        return x;
    }

    @Says("3 it has no rolls;")
    static void p23_noRolls() {
        refused("cut(0, 1, 10)", 3, x -> x.cut(0, 1, 10));
        refused("ahead of 4", 3, x -> x.cut(0, 1, 0));
        refused("ahead of 4", 3, x -> x.cut(0, 1, 41));
        refused("ahead of 5", 3, BoundaryPromises21To27Test::noRollsButFlawed, x -> x.cut(0, 4, 10));
        ReelSlitter x = busy();
        is("the only roll", x.cut(1, 3, 70), 0);
        is("none is left", x.cut(1, 3, 70), 3);
    }

    @Says("4 T is not 1 to its length;")
    static void p23_tIs1ToItsLength() {
        refused("cut(1, 0, 0)", 4, x -> x.cut(1, 0, 0));
        refused("cut(1, 0, -1)", 4, x -> x.cut(1, 0, -1));
        refused("cut(1, 0, MIN)", 4, x -> x.cut(1, 0, MIN));
        refused("cut(1, 0, 96)", 4, x -> x.cut(1, 0, 96));
        refused("cut(1, 0, MAX)", 4, x -> x.cut(1, 0, MAX));
        refused("ahead of 5", 4, x -> x.cut(0, 0, 0));
        refused("ahead of 5", 4, x -> x.cut(0, 0, 96));
        is("cut(1, 0, 1)", busy().cut(1, 0, 1), 0);
        is("cut(1, 0, 95)", busy().cut(1, 0, 95), 0);
        is("the LOT's own length", busy().cut(1, 2, 96), 0);
    }

    @Says("5 the LOT is FLAWED, and the PATTERN doesn't FIT such.")
    static void p23_flawed() {
        refused("cut(0, 0, 1)", 5, x -> x.cut(0, 0, 1));
        refused("cut(0, 0, 95)", 5, x -> x.cut(0, 0, 95));
        refused("what came back is FLAWED", 5, x -> x.cut(0, 3, 70));
        is("not FLAWED", busy().cut(0, 2, 95), 0);
        is("it FITS such", busy().cut(1, 0, 95), 0);
        ReelSlitter x = busy();
        x.strip(130, 131);
        is("LEFT 120, RIGHT 59: 3 x 60", x.cut(0, 0, 95), 5);
        x.strip(129, 130);
        is("LEFT 119, RIGHT 60: 3 x 60", x.cut(0, 0, 95), 5);
        x.strip(130, 130);
        is("no STRIP: 3 x 60", x.cut(0, 0, 95), 0);
    }

    // ---- promise 24

    @Says("0 TAKEN, 1 USED, 2 BACK, 3 LOST, of all rolls that were CUT; 4 rolls CUT; 5 SETS;")
    static void p24_areasAndCounts() {
        ReelSlitter x = busy();
        long[] due = {200 * 95, 10 * 2 * 120, 200 * 70, 200 * 95 - 2400 - 200 * 70, 1, 2};
        for (int what = 0; what <= 5; what++) {
            is("area(" + what + ")", x.area(what), due[what]);
        }
        is("a cut without SETS", x.cut(0, 2, 9), 0);
        long[] then = {200 * 95 + 200 * 1000, 2400, 200 * 70 + 200 * 991, due[3] + 200 * 9, 2, 2};
        for (int what = 0; what <= 5; what++) {
            is("area(" + what + ")", x.area(what), then[what]);
        }
        is("a cut that is refused", x.cut(0, 0, 9), 5);
        yes("another MILL", x.mill(400, 0, 4));
        for (int what = 0; what <= 5; what++) {
            is("area(" + what + ") stays", x.area(what), then[what]);
        }
        add(x, 1, 0, 0, 4);
        is("cut", x.cut(0, 2, 1000), 0);
        is("W as it is now", x.area(0), then[0] + 400 * 1000);
        is("all is accounted for", x.area(1) + x.area(2) + x.area(3), x.area(0));
    }

    @Says("6 MOVES of all, each from the PATTERN cut ahead.")
    static void p24_movesOfAll() {
        ReelSlitter x = desk(100, 5, 4, 30, 20);
        add(x, 9, 3, 0);
        add(x, 9, 2, 1);
        x.lot(100, 9, false);
        is("nothing is cut", x.area(6), 0);
        x.cut(0, 0, 100);
        is("from nothing: 5, 35, 65, 95", x.area(6), 4);
        x.cut(0, 0, 1);
        is("the same again", x.area(6), 4);
        x.cut(1, 0, 100);
        is("85 is new", x.area(6), 5);
        is("a cut that is refused", x.cut(0, 0, 101), 4);
        x.cut(1, 0, 100);
        is("was none ahead", x.area(6), 5);
        yes("another EDGE", x.mill(100, 6, 4));
        add(x, 1, 2, 1);
        x.cut(0, 0, 100);
        is("6, 36, 66, 86: all are new", x.area(6), 9);
    }

    @Says("NONE for others.")
    static void p24_others() {
        ReelSlitter x = busy();
        for (int what : new int[] {-1, 7, 8, MIN, MAX}) {
            is("area(" + what + ")", x.area(what), -1);
        }
        is("the last that is told", x.area(6), 5);
    }

    // ---- promise 25

    @Says("The PLAN is kept (in place of what was).")
    static void p25_inPlaceOfWhatWas() {
        ReelSlitter x = busy();
        x.keep();
        x.drop(-1);
        yes("undo()", x.undo());
        is("2 SLOTS, not the 3 that were kept before", x.plan(0), 2);
        counts("with ROLLS as they were", x, 1, 4, 0, 0, 4);
        x.drop(-1);
        x.keep();
        x.slot(0, 1);
        yes("undo()", x.undo());
        is("an empty PLAN is kept, too", x.plan(0), 0);
    }

    @Says("The PLAN is kept (in place of what was).")
    static void p25_afullPlanIsKept() {
        ReelSlitter x = desk(100, 0, 2, 50);
        for (int s = 0; s < 60; s++) {
            x.slot(s % 2, s + 1);
        }
        x.keep();
        is("keep() changes nothing", x.plan(1), 60 * 61 / 2);
        x.drop(-1);
        x.slot(0, 1000);
        yes("undo()", x.undo());
        for (int s = 0; s < 60; s++) {
            counts("as it was", x, s, s + 1, 2 - s % 2);
        }
        is("a 61st", x.slot(0, 1), -1);
    }

    @Says("The PLAN is kept (in place of what was).")
    static void p25_whatIsKeptIsNoPartOfThePlan() {
        ReelSlitter x = desk(100, 0, 2, 50);
        x.slot(0, 5);
        x.keep();
        x.lot(100, 9, false);
        x.cut(0, 0, 100);
        x.slot(1, 7);
        yes("undo()", x.undo());
        is("ROLLS as they were", x.plan(1), 5);
        x.cut(0, 0, 100);
        yes("undo() once more", x.undo());
        is("ROLLS as they were", x.plan(1), 5);
        is("what was cut stays cut", x.area(4), 2);
    }

    // ---- promise 26

    @Says("The PLAN is again as it was kept;")
    static void p26_asItWasKept() {
        ReelSlitter x = busy();
        yes("undo()", x.undo());
        is("SLOTS", x.plan(0), 3);
        counts("the first", x, 0, 2, 3, 0, 0);
        counts("the second", x, 1, 1, 1, 2, 1);
        counts("the third", x, 2, 5, 0, 0, 4);
        yes("again", x.undo());
        is("SLOTS", x.plan(0), 3);
        is("greedy()", x.greedy() > 0 ? 1 : 0, 1);
        yes("behind GREEDY", x.undo());
        is("SLOTS", x.plan(0), 3);
        is("fewest()", x.fewest() > 0 ? 1 : 0, 1);
        yes("behind FEWEST", x.undo());
        is("SLOTS", x.plan(0), 3);
        x.line();
        yes("behind LINE", x.undo());
        counts("the first", x, 0, 2, 3, 0, 0);
        is("DONE is not undone", x.about(2, 2), 8);
    }

    private static ReelSlitter unkept() {
        ReelSlitter x = desk(100, 0, 2, 50);
        x.slot(0, 5);
        x.lot(500, 1, false);
        return x;
    }

    @Says("false: nothing is kept, or mill() or width() was done since.")
    static void p26_nothingIsKept() {
        no("a new desk", new ReelSlitter().undo());
        refused("a PLAN that was not kept", 0, BoundaryPromises21To27Test::unkept, x -> bit(x.undo()));
        ReelSlitter x = new ReelSlitter();
        x.keep();
        yes("no PLAN, but kept", x.undo());
    }

    private static ReelSlitter milledSince() {
        ReelSlitter x = busy();
        yes("mill", x.mill(200, 10, 4));
        x.slot(1, 7);
        return x;
    }

    @Says("false: nothing is kept, or mill() or width() was done since.")
    static void p26_millWasDoneSince() {
        refused("mill() was done", 0, BoundaryPromises21To27Test::milledSince, x -> bit(x.undo()));
        ReelSlitter x = busy();
        no("mill() was refused: a number", x.mill(9, 0, 1));
        no("mill() was refused: a WIDTH", x.mill(59, 0, 1));
        yes("undo()", x.undo());
        is("SLOTS", x.plan(0), 3);
        x = milledSince();
        x.keep();
        x.drop(0);
        yes("kept since", x.undo());
        is("ROLLS", x.plan(1), 7);
    }

    private static ReelSlitter widenedSince() {
        ReelSlitter x = busy();
        is("width", x.width(20, 0), 3);
        x.slot(1, 7);
        return x;
    }

    @Says("false: nothing is kept, or mill() or width() was done since.")
    static void p26_widthWasDoneSince() {
        refused("width() was done", 0, BoundaryPromises21To27Test::widenedSince, x -> bit(x.undo()));
        ReelSlitter x = busy();
        is("width() was refused: that one is there", x.width(60, 0), -1);
        is("width() was refused: above W", x.width(201, 0), -1);
        yes("undo()", x.undo());
        is("SLOTS", x.plan(0), 3);
        x = widenedSince();
        x.keep();
        x.drop(0);
        yes("kept since", x.undo());
        is("ROLLS", x.plan(1), 7);
    }

    @Says("false: nothing is kept, or mill() or width() was done since.")
    static void p26_otherCallsAreNone() {
        ReelSlitter x = busy();
        yes("strip", x.strip(1, 2));
        yes("order", x.order(0, 1));
        yes("price", x.price(0, 1));
        is("lot", x.lot(1, 1, true), 4);
        is("cut", x.cut(1, 2, 10), 0);
        yes("drop", x.drop(-1));
        yes("undo()", x.undo());
        is("SLOTS", x.plan(0), 3);
        x = desk(100, 0, 2, 50);
        x.slot(0, 4);
        x.keep();
        x.drop(0);
        yes("length", x.length(7));
        yes("undo()", x.undo());
        is("ROLLS", x.plan(1), 4);
    }

    // ---- promise 27

    private static long thrown(ReelSlitter x, int k, int v, int what) {
        try {
            x.share(k, v, what);
            return 0;
        } catch (ArithmeticException e) {
            return 1;
        }
    }

    @Says("The widths of PATTERN k's pieces together, divided by v (as ints): what 0 the quotient, 1 the remainder.")
    static void p27_quotientAndRemainder() {
        ReelSlitter x = desk(100, 5, 4, 30, 20);
        int[][] due = {{1, 90, 0}, {2, 45, 0}, {7, 12, 6}, {89, 1, 1}, {90, 1, 0}, {91, 0, 90}, {MAX, 0, 90},
            {-1, -90, 0}, {-7, -12, 6}, {-89, -1, 1}, {-90, -1, 0}, {-91, 0, 90}, {-MAX, 0, 90}, {MIN, 0, 90}};
        for (int[] d : due) {
            is("90 / " + d[0], x.share(0, d[0], 0), d[1]);
            is("90 % " + d[0], x.share(0, d[0], 1), d[2]);
        }
        int last = x.patterns() - 1;
        is("20 / 7, the last PATTERN", x.share(last, 7, 0), 2);
        is("20 % 7", x.share(last, 7, 1), 6);
        is("10000 / 1", desk(10000, 0, 1, 10000).share(0, 1, 0), 10000);
    }

    @Says("-1000000: no such PATTERN, what;")
    static void p27_noSuchPatternOrWhat() {
        ReelSlitter x = desk(100, 5, 4, 30, 20);
        int all = x.patterns();
        for (int k : new int[] {-1, all, MIN, MAX}) {
            is("share(" + k + ", 7, 0)", x.share(k, 7, 0), -1000000);
            is("share(" + k + ", 7, 1)", x.share(k, 7, 1), -1000000);
        }
        for (int what : new int[] {-1, 2, MIN, MAX}) {
            is("share(0, 7, " + what + ")", x.share(0, 7, what), -1000000);
        }
        is("share(all - 1, 7, 1)", x.share(all - 1, 7, 1), 6);
        is("no WIDTHS", new ReelSlitter().share(0, 7, 0), -1000000);
        is("no numbers", many(905).share(0, 7, 0), -1000000);
    }

    @Says("ArithmeticException: v is 0 (asked behind that).")
    static void p27_vIs0() {
        ReelSlitter x = desk(100, 5, 4, 30, 20);
        int all = x.patterns();
        is("share(0, 0, 0) throws", thrown(x, 0, 0, 0), 1);
        is("share(0, 0, 1) throws", thrown(x, 0, 0, 1), 1);
        is("share(all - 1, 0, 0) throws", thrown(x, all - 1, 0, 0), 1);
        is("share(0, 1, 0) does not", thrown(x, 0, 1, 0), 0);
        is("share(0, -1, 1) does not", thrown(x, 0, -1, 1), 0);
        refused("share(0, 0, 0) throws", 1, y -> thrown(y, 0, 0, 0));
    }

    @Says("ArithmeticException: v is 0 (asked behind that).")
    static void p27_vIsAskedBehindPatternAndWhat() {
        ReelSlitter x = desk(100, 5, 4, 30, 20);
        int all = x.patterns();
        is("share(-1, 0, 0)", x.share(-1, 0, 0), -1000000);
        is("share(all, 0, 1)", x.share(all, 0, 1), -1000000);
        is("share(0, 0, 2)", x.share(0, 0, 2), -1000000);
        is("share(0, 0, -1)", x.share(0, 0, -1), -1000000);
        is("share(MAX, 0, MIN)", x.share(MAX, 0, MIN), -1000000);
        is("no WIDTHS", new ReelSlitter().share(0, 0, 0), -1000000);
        is("no numbers", many(905).share(0, 0, 0), -1000000);
    }
}
