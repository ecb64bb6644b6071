/** Promises 1 to 7, sentence by sentence: a new object, the MILL, its STRIP, its WIDTHS and what is ORDERED. */
public final class BoundaryPromises1To7Test extends DeskChecks {
    public static void main(String[] args) throws Exception {
        Boundaries.run(BoundaryPromises1To7Test.class);
    }

    // ---- promise 1

    @Says("W 1000,")
    static void p01_wIs1000() {
        ReelSlitter x = new ReelSlitter();
        is("1001", x.width(1001, 0), -1);
        is("1000", x.width(1000, 0), 0);
        is("no WASTE of 1000", x.pattern(0, -1), 0);
        no("G 1001", x.strip(0, 1001));
        yes("G 1000", x.strip(0, 1000));
    }

    @Says("EDGE 0,")
    static void p01_edgeIs0() {
        ReelSlitter x = new ReelSlitter();
        x.width(1000, 1);
        is("1000 has room", x.patterns(), 1);
        is("greedy()", x.greedy(), 1);
        is("two CUTS", x.plan(3), 2);
        x.lot(100, 1, false);
        is("cut at 0 and 1000", x.cut(0, 0, 100), 0);
        yes("EDGE 0 of twice W", x.mill(2000, 0, 10));
        x.slot(1, 1);
        is("the same CUTS", x.slotted(0, 2), 0);
    }

    @Says("KNIVES 10,")
    static void p01_knivesAre10() {
        ReelSlitter x = new ReelSlitter();
        x.width(1, 0);
        is("1 to 10 pieces", x.patterns(), 10);
        is("10 pieces", number(x, 10), 0);
        is("11 pieces", number(x, 11), -1);
    }

    @Says("no STRIP (F, G 0),")
    static void p01_noStrip() {
        ReelSlitter x = new ReelSlitter();
        x.width(1000, 0);
        is("1000 FITS a FLAWED roll", x.pattern(0, -3), 1);
        yes("1 millimetre of STRIP", x.strip(0, 1));
        is("no longer", x.pattern(0, -3), 0);
    }

    @Says("no WIDTHS,")
    static void p01_noWidths() {
        ReelSlitter x = new ReelSlitter();
        for (int what = 0; what <= 5; what++) {
            is("about(0, " + what + ")", x.about(0, what), -1);
        }
        is("patterns()", x.patterns(), 0);
        is("best()", x.best(), -1);
        is("bound()", x.bound(), 0);
        is("greedy()", x.greedy(), 0);
        is("fewest()", x.fewest(), 0);
        no("order(0, 1)", x.order(0, 1));
        no("price(0, 1)", x.price(0, 1));
        is("slot(0, 1)", x.slot(0, 1), -1);
        is("pattern(0, -1)", x.pattern(0, -1), -1000);
        is("share(0, 0, 0)", x.share(0, 0, 0), -1000000);
        is("find of nothing", x.find(0, 0, 0, 0, 0, 0), -1);
    }

    @Says("LENGTH 100,")
    static void p01_lengthIs100() {
        ReelSlitter x = new ReelSlitter();
        x.width(500, 9);
        x.slot(0, 9);
        x.lot(99, 1, false);
        x.lot(200, 1, false);
        is("99 metres", x.cut(0, 0, 99), 0);
        is("no SET", x.area(5), 0);
        is("100 metres", x.cut(0, 1, 100), 0);
        is("one SET", x.area(5), 1);
        is("100 metres come back", x.lotted(2, 0), 100);
    }

    @Says("no PLAN,")
    static void p01_noPlan() {
        ReelSlitter x = new ReelSlitter();
        for (int what = 0; what <= 5; what++) {
            is("plan(" + what + ")", x.plan(what), 0);
        }
        is("slotted(0, 0)", x.slotted(0, 0), -1);
        no("drop(0)", x.drop(0));
        is("line()", x.line(), 0);
        is("cut(0, 0, 1)", x.cut(0, 0, 1), 1);
        no("nothing is kept either", x.undo());
    }

    @Says("no STOCK.")
    static void p01_noStock() {
        ReelSlitter x = new ReelSlitter();
        for (int what = 0; what <= 2; what++) {
            is("lotted(0, " + what + ")", x.lotted(0, what), -1);
        }
        for (int what = 0; what <= 6; what++) {
            is("area(" + what + ")", x.area(what), 0);
        }
        x.width(500, 1);
        x.slot(0, 1);
        is("cut(0, 0, 1)", x.cut(0, 0, 1), 2);
        is("the first LOT", x.lot(1, 0, false), 0);
    }

    // ---- promise 2

    @Says("The MILL becomes another one (the STRIP goes: F, G 0);")
    static void p02_theStripGoes() {
        ReelSlitter x = busy();
        is("no 3 x 60", fitsFlawed(x, 3), 0);
        yes("the same MILL", x.mill(200, 10, 4));
        is("3 x 60", fitsFlawed(x, 3), 1);
        yes("the STRIP of all", x.strip(0, 200));
        yes("a MILL without EDGE", x.mill(180, 0, 3));
        is("3 x 60 from end to end", fitsFlawed(x, 3), 1);
        is("W", x.pattern(0, -1), 0);
        is("KNIVES", number(x, 0, 0, 4), -1);
    }

    @Says("The MILL becomes another one (the STRIP goes: F, G 0);")
    static void p02_allElseStays() {
        ReelSlitter x = busy();
        yes("another MILL", x.mill(300, 10, 4));
        int[][] due = {{60, 7, 0, 7, 50, 0}, {45, 5, 0, 5, 40, 0}, {30, 9, 8, 1, 25, 0}};
        for (int i = 0; i < 3; i++) {
            for (int what = 0; what <= 5; what++) {
                is("about(" + i + ", " + what + ")", x.about(i, what), due[i][what]);
            }
        }
        is("LOTS", x.lotted(3, 0), 70);
        is("AREAS", x.area(0), 200 * 95);
        no("LENGTH: something is DONE", x.length(10));
        is("a SLOT", add(x, 1, 0, 0, 4), 0);
        is("LATEST", x.slotted(0, 2), 0);
        is("LENGTH is still 10", x.cut(0, 2, 30), 0);
        is("SETS", x.area(5), 2 + 3);
    }

    @Says("the PLAN goes (its SLOTS, not what is kept).")
    static void p02_thePlanGoes() {
        ReelSlitter x = busy();
        is("SLOTS", x.plan(0), 2);
        yes("the same MILL", x.mill(200, 10, 4));
        for (int what = 0; what <= 3; what++) {
            is("plan(" + what + ")", x.plan(what), 0);
        }
        is("slotted(0, 0)", x.slotted(0, 0), -1);
        no("what is kept can't come back", x.undo());
        is("still no SLOTS", x.plan(0), 0);
    }

    @Says("False: a number is not as told, or a WIDTH is above W.")
    static void p02_aNumberIsNotAsTold() {
        refused("w alone is wrong", 0, x -> bit(x.mill(10001, 10, 4)));
        refused("edge alone is wrong", 0, x -> bit(x.mill(200, 51, 4)));
        refused("knives alone are wrong", 0, x -> bit(x.mill(200, 10, 21)));
        refused("all are wrong", 0, x -> bit(x.mill(MIN, MIN, MIN)));
        refused("all are wrong", 0, x -> bit(x.mill(MAX, MAX, MAX)));
    }

    @Says("False: a number is not as told, or a WIDTH is above W.")
    static void p02_aWidthIsAboveW() {
        refused("59, and 60 is a WIDTH", 0, x -> bit(x.mill(59, 0, 4)));
        ReelSlitter x = busy();
        yes("60, and 60 is a WIDTH", x.mill(60, 0, 4));
        is("60, 45, 2 x 30, 30", x.patterns(), 4);
        yes("60 less the edges has no room, but is not above W", x.mill(60, 15, 4));
        is("30", x.patterns(), 1);
        x = desk(100, 0, 1, 30, 80, 50);
        no("79, and the greatest is the second", x.mill(79, 0, 1));
        yes("80", x.mill(80, 0, 1));
        is("81 came too late", x.width(81, 0), -1);
    }

    // ---- promise 3

    @Says("The STRIP.")
    static void p03_theStripIsAnotherOneAtOnce() {
        ReelSlitter x = desk(100, 0, 2, 50);
        x.slot(0, 2);
        x.keep();
        x.lot(100, 3, true);
        yes("strip(50, 51)", x.strip(50, 51));
        is("2 x 50", x.cut(0, 0, 100), 5);
        is("the PLAN stays", x.plan(1), 2);
        yes("strip(50, 50)", x.strip(50, 50));
        is("2 x 50", x.cut(0, 0, 100), 0);
        yes("what is kept stays", x.undo());
        is("ROLLS", x.plan(1), 2);
    }

    @Says("False: not as told.")
    static void p03_notAsTold() {
        refused("f is below 0", 0, x -> bit(x.strip(-1, 0)));
        refused("g is below f", 0, x -> bit(x.strip(200, 199)));
        refused("g is above W", 0, x -> bit(x.strip(200, 201)));
        ReelSlitter x = busy();
        yes("all of W", x.strip(0, 200));
        yes("a lesser MILL", x.mill(199, 10, 4));
        no("its W is the limit", x.strip(0, 200));
        yes("its W", x.strip(0, 199));
        yes("a greater MILL", x.mill(201, 10, 4));
        yes("its W is the limit", x.strip(201, 201));
        no("above it", x.strip(201, 202));
    }

    // ---- promise 4

    @Says("A WIDTH more, ORDERED so many: its number;")
    static void p04_theNextNumber() {
        ReelSlitter x = busy();
        is("width(20, 11)", x.width(20, 11), 3);
        int[] due = {20, 11, 0, 11, 0, 0, -1};
        for (int what = 0; what < due.length; what++) {
            is("about(3, " + what + ")", x.about(3, what), due[what]);
        }
        is("the ones ahead stay", x.about(2, 0), 30);
        is("the STRIP stays", fitsFlawed(x, 3), 0);
    }

    @Says("NONE: not as told, there are 6, or that one is there.")
    static void p04_notAsTold() {
        refused("w is 0", -1, x -> x.width(0, 4));
        refused("w is above W", -1, x -> x.width(201, 4));
        refused("pieces are below 0", -1, x -> x.width(33, -1));
        refused("pieces are above 40", -1, x -> x.width(33, 41));
        refused("both", -1, x -> x.width(MIN, MIN));
        refused("both", -1, x -> x.width(MAX, MAX));
        ReelSlitter x = busy();
        yes("a lesser MILL", x.mill(60, 0, 4));
        is("its W is the limit", x.width(61, 4), -1);
        yes("a greater one", x.mill(61, 0, 4));
        is("its W", x.width(61, 4), 3);
    }

    private static ReelSlitter six() {
        ReelSlitter x = busy();
        x.width(20, 1);
        x.width(25, 0);
        is("the 6th", x.width(35, 2), 5);
        x.slot(0, 3);
        x.keep();
        return x;
    }

    @Says("NONE: not as told, there are 6, or that one is there.")
    static void p04_thereAre6() {
        refused("a 7th", -1, BoundaryPromises1To7Test::six, x -> x.width(36, 2));
        refused("a 7th that is there", -1, BoundaryPromises1To7Test::six, x -> x.width(35, 2));
        is("no 7th", six().about(6, 0), -1);
    }

    @Says("NONE: not as told, there are 6, or that one is there.")
    static void p04_thatOneIsThere() {
        refused("60 is there", -1, x -> x.width(60, 3));
        refused("30 is there, ORDERED as many", -1, x -> x.width(30, 9));
        ReelSlitter x = busy();
        yes("another MILL", x.mill(400, 0, 4));
        is("60 is still there", x.width(60, 3), -1);
    }

    @Says("(The PLAN goes.)")
    static void p04_thePlanGoes() {
        ReelSlitter x = busy();
        is("SLOTS", x.plan(0), 2);
        is("width(20, 0)", x.width(20, 0), 3);
        for (int what = 0; what <= 3; what++) {
            is("plan(" + what + ")", x.plan(what), 0);
        }
        no("what is kept can't come back", x.undo());
    }

    // ---- promise 5

    @Says("A WIDTH is ORDERED so many (0 to 40).")
    static void p05_from0To40() {
        ReelSlitter x = busy();
        for (int i = 0; i < 3; i++) {
            yes("order(" + i + ", 40)", x.order(i, 40));
            is("ORDERED", x.about(i, 1), 40);
            yes("order(" + i + ", 0)", x.order(i, 0));
            is("ORDERED", x.about(i, 1), 0);
        }
        is("DONE stays", x.about(2, 2), 8);
        is("the PLAN stays", x.plan(0), 2);
        yes("what is kept stays", x.undo());
    }

    @Says("False: others.")
    static void p05_others() {
        refused("order(0, -1)", 0, x -> bit(x.order(0, -1)));
        refused("order(0, 41)", 0, x -> bit(x.order(0, 41)));
        refused("order(0, MIN)", 0, x -> bit(x.order(0, MIN)));
        refused("order(0, MAX)", 0, x -> bit(x.order(0, MAX)));
        refused("order(-1, 3)", 0, x -> bit(x.order(-1, 3)));
        refused("order(3, 3)", 0, x -> bit(x.order(3, 3)));
        refused("order(MIN, 3)", 0, x -> bit(x.order(MIN, 3)));
        refused("order(MAX, 3)", 0, x -> bit(x.order(MAX, 3)));
        refused("the 7th of 6", 0, BoundaryPromises1To7Test::six, x -> bit(x.order(6, 3)));
        yes("the 6th of 6", six().order(5, 3));
        ReelSlitter x = busy();
        no("3 is not there yet", x.order(3, 3));
        is("it comes", x.width(20, 9), 3);
        is("as it is told", x.about(3, 1), 9);
    }

    // ---- promise 6

    private static ReelSlitter uncut() {
        ReelSlitter x = desk(100, 0, 2, 50);
        x.slot(0, 9);
        x.lot(1000, 9, false);
        return x;
    }

    @Says("LENGTH of all pieces.")
    static void p06_lengthIsSet() {
        ReelSlitter x = uncut();
        yes("length(7)", x.length(7));
        yes("and another", x.length(9));
        is("cut", x.cut(0, 0, 990), 0);
        is("SETS", x.area(5), 110);
        is("10 come back", x.lotted(1, 0), 10);
        is("USED", x.area(1), 9L * 110 * 100);
    }

    @Says("False: not as told, or something is DONE.")
    static void p06_notAsTold() {
        refused("length(0)", 0, BoundaryPromises1To7Test::uncut, x -> bit(x.length(0)));
        refused("length(10001)", 0, BoundaryPromises1To7Test::uncut, x -> bit(x.length(10001)));
        refused("length(MIN)", 0, BoundaryPromises1To7Test::uncut, x -> bit(x.length(MIN)));
        refused("length(MAX)", 0, BoundaryPromises1To7Test::uncut, x -> bit(x.length(MAX)));
        yes("length(1)", uncut().length(1));
        yes("length(10000)", uncut().length(10000));
    }

    private static ReelSlitter oneDone() {
        ReelSlitter x = desk(100, 0, 1, 10, 20, 50);
        x.slot(2, 9);
        x.lot(1000, 9, false);
        is("one piece of the last WIDTH", x.cut(0, 0, 100), 0);
        return x;
    }

    @Says("False: not as told, or something is DONE.")
    static void p06_somethingIsDone() {
        refused("length(99): one piece is DONE", 0, BoundaryPromises1To7Test::oneDone, x -> bit(x.length(99)));
        refused("length(100): as it is", 0, BoundaryPromises1To7Test::oneDone, x -> bit(x.length(100)));
        ReelSlitter x = uncut();
        is("cut to less than LENGTH", x.cut(0, 0, 99), 0);
        is("nothing is DONE", x.about(0, 2), 0);
        yes("length(50)", x.length(50));
        is("cut", x.cut(0, 0, 50), 0);
        no("2 pieces are DONE", x.length(50));
        yes("another MILL", x.mill(100, 0, 1));
        no("they are still DONE", x.length(50));
        yes("nothing is ORDERED", x.order(0, 0));
        no("they are still DONE", x.length(50));
    }

    // ---- promise 7

    @Says("Of WIDTH i, what 0 millimetres, 1 ORDERED, 2 DONE, 3 WANTED, 4 PRICE, 5 pieces in the PLAN.")
    static void p07_eachOfThem() {
        ReelSlitter x = busy();
        int[][] due = {{60, 7, 0, 7, 50, 6}, {45, 5, 0, 5, 40, 0}, {30, 9, 8, 1, 25, 16}};
        for (int i = 0; i < 3; i++) {
            for (int what = 0; what <= 5; what++) {
                is("about(" + i + ", " + what + ")", x.about(i, what), due[i][what]);
            }
        }
    }

    @Says("Of WIDTH i, what 0 millimetres, 1 ORDERED, 2 DONE, 3 WANTED, 4 PRICE, 5 pieces in the PLAN.")
    static void p07_theMostPiecesInThePlan() {
        ReelSlitter x = desk(100, 0, 20, 5);
        for (int s = 0; s < 60; s++) {
            x.slot(0, 1000);
        }
        is("60 x 1000 x 20", x.about(0, 5), 1200000);
    }

    @Says("NONE: no such ones.")
    static void p07_noSuchOnes() {
        ReelSlitter x = busy();
        for (int what : new int[] {-1, 6, 10, MIN, MAX}) {
            is("about(0, " + what + ")", x.about(0, what), -1);
        }
        for (int i : new int[] {-1, 3, 6, MIN, MAX}) {
            for (int what = 0; what <= 5; what++) {
                is("about(" + i + ", " + what + ")", x.about(i, what), -1);
            }
        }
        is("the 6th of 6", six().about(5, 0), 35);
        is("the 7th of 6", six().about(6, 0), -1);
    }
}
