/** Promises 8 to 13, sentence by sentence: PATTERNS, their numbers, PRICES and the BOUND. */
public final class BoundaryPromises8To13Test extends DeskChecks {
    public static void main(String[] args) throws Exception {
        Boundaries.run(BoundaryPromises8To13Test.class);
    }

    /** 3001 PATTERNS FIT: no numbers. GREEDY has made a PLAN. */
    private static ReelSlitter overfull() {
        ReelSlitter x = many(905);
        orders(x, 1, 1);
        x.price(0, 1);
        x.price(-1, 1000);
        is("greedy()", x.greedy(), 1);
        x.keep();
        x.lot(500, 3, false);
        return x;
    }

    /** The same with 3000 PATTERNS. */
    private static ReelSlitter justFull() {
        ReelSlitter x = many(904);
        orders(x, 1, 1);
        x.price(0, 1);
        x.price(-1, 1000);
        return x;
    }

    // ---- promise 8

    @Says("How many PATTERNS FIT;")
    static void p08_fromNoneToAll() {
        is("no WIDTHS", desk(100, 0, 20).patterns(), 0);
        is("a WIDTH without room", desk(100, 25, 20, 51).patterns(), 0);
        is("a WIDTH with room for one", desk(100, 25, 20, 50).patterns(), 1);
        is("room for 2 of 50", desk(100, 0, 20, 50).patterns(), 2);
        is("room for 1 of 51", desk(100, 0, 20, 51).patterns(), 1);
        is("20 KNIVES", desk(100, 0, 20, 1).patterns(), 20);
        is("6 WIDTHS, one knife", desk(100, 0, 1, 1, 2, 3, 4, 5, 6).patterns(), 6);
        is("6 WIDTHS, 3 KNIVES", desk(100, 0, 3, 1, 2, 3, 4, 5, 6).patterns(), 83);
        is("6 WIDTHS, 7 KNIVES", desk(100, 0, 7, 1, 2, 3, 4, 5, 6).patterns(), 1715);
    }

    @Says("-2: more than 3000")
    static void p08_3000And3001() {
        is("3000", many(904).patterns(), 3000);
        is("3001", many(905).patterns(), -2);
        is("3002", desk(2000, 0, 10, 100, 2, 3, 4, 5).patterns(), -2);
        is("6 WIDTHS, 8 KNIVES: 3002", desk(100, 0, 8, 1, 2, 3, 4, 5, 6).patterns(), -2);
        is("6 WIDTHS, 20 KNIVES: 230229", desk(10000, 0, 20, 1, 2, 3, 4, 5, 6).patterns(), -2);
        ReelSlitter x = overfull();
        yes("a MILL of fewer", x.mill(904, 0, 10));
        is("3000 again", x.patterns(), 3000);
        yes("a MILL of more", x.mill(905, 0, 10));
        is("too many again", x.patterns(), -2);
    }

    @Says("(then there are no numbers: what takes one is refused, FEWEST, best(), SOUND, too).")
    static void p08_patternTakesNoNumber() {
        ReelSlitter x = justFull();
        is("COUNT in the last of 3000", x.pattern(2999, 4), 1);
        is("behind the last of 3000", x.pattern(3000, 4), -1000);
        x = overfull();
        for (int i = -3; i < 5; i++) {
            is("pattern(0, " + i + ")", x.pattern(0, i), -1000);
            is("pattern(2999, " + i + ")", x.pattern(2999, i), -1000);
            is("pattern(3000, " + i + ")", x.pattern(3000, i), -1000);
        }
    }

    @Says("(then there are no numbers: what takes one is refused, FEWEST, best(), SOUND, too).")
    static void p08_slotTakesNoNumber() {
        refused("slot(0, 1)", -1, BoundaryPromises8To13Test::overfull, x -> x.slot(0, 1));
        refused("slot(2999, 1)", -1, BoundaryPromises8To13Test::overfull, x -> x.slot(2999, 1));
        ReelSlitter x = justFull();
        is("the last of 3000", x.slot(2999, 1), 0);
        counts("5", x, 0, 1, 0, 0, 0, 0, 1);
        is("behind the last", x.slot(3000, 1), -1);
    }

    @Says("(then there are no numbers: what takes one is refused, FEWEST, best(), SOUND, too).")
    static void p08_shareTakesNoNumber() {
        is("the last of 3000", justFull().share(2999, 2, 0), 2);
        is("behind the last", justFull().share(3000, 2, 0), -1000000);
        is("no numbers", overfull().share(0, 2, 0), -1000000);
        is("no numbers, by 0", overfull().share(0, 0, 1), -1000000);
    }

    @Says("(then there are no numbers: what takes one is refused, FEWEST, best(), SOUND, too).")
    static void p08_fewestBestAndSoundAreRefused() {
        refused("fewest()", -4, BoundaryPromises8To13Test::overfull, ReelSlitter::fewest);
        is("best()", overfull().best(), -1);
        is("bound()", overfull().bound(), -1);
        ReelSlitter x = justFull();
        is("fewest() of 3000: 4 x 3000 trials", x.fewest(), 1);
        is("best() of 3000: 9 x 100 + 2, as any with 9 x 100", x.best(), 0);
        is("bound() of 3000", x.bound(), 1);
    }

    @Says("(then there are no numbers: what takes one is refused, FEWEST, best(), SOUND, too).")
    static void p08_whatTakesNoneGoesOn() {
        ReelSlitter x = overfull();
        is("greedy() takes none", x.greedy(), 1);
        counts("100 + 2", x, 0, 1, 1, 1, 0, 0, 0);
        is("line() takes none", x.line(), 3);
        is("cut() takes none", x.cut(0, 0, 100), 0);
        yes("undo() takes none", x.undo());
        is("the PLAN", x.plan(1), 1);
    }

    // ---- promise 9

    @Says("COUNT of WIDTH i in PATTERN k;")
    static void p09_countsOfTheFirstAndTheLast() {
        ReelSlitter x = desk(100, 0, 20, 1, 2, 3);
        is("20 of the first WIDTH", x.pattern(0, 0), 20);
        is("none of the last", x.pattern(0, 2), 0);
        int last = x.patterns() - 1;
        is("none of the first WIDTH", x.pattern(last, 0), 0);
        is("one of the last", x.pattern(last, 2), 1);
        x = desk(100, 0, 1, 1, 2, 3, 4, 5, 6);
        for (int i = 0; i < 6; i++) {
            is("pattern(" + i + ", " + i + ")", x.pattern(i, i), 1);
        }
    }

    @Says("for i NONE its WASTE;")
    static void p09_wasteForNone() {
        ReelSlitter x = desk(100, 5, 3, 30, 20);
        is("3 x 30", x.pattern(0, -1), 10);
        is("20", x.pattern(x.patterns() - 1, -1), 80);
        is("NONE is -1", x.pattern(0, ReelSlitter.NONE), 10);
    }

    @Says("-2 its WORTH,")
    static void p09_worthForMinus2() {
        ReelSlitter x = desk(100, 5, 3, 30, 20);
        is("no PRICES", x.pattern(0, -2), 0);
        x.price(0, 1000000);
        x.price(1, 1);
        is("3 x 30", x.pattern(0, -2), 3000000);
        is("2 x 30 + 20", x.pattern(1, -2), 2000001);
        is("20", x.pattern(x.patterns() - 1, -2), 1);
    }

    @Says("-3 whether it FITS a FLAWED roll (1, 0).")
    static void p09_flawedForMinus3() {
        ReelSlitter x = desk(100, 5, 3, 30, 20);
        is("no STRIP", x.pattern(0, -3), 1);
        x.strip(50, 60);
        is("LEFT 45, RIGHT 35: 3 x 30", x.pattern(0, -3), 0);
        is("2 x 30", fitsFlawed(x, 2), 1);
    }

    @Says("-1000: no such ones.")
    static void p09_noSuchOnes() {
        ReelSlitter x = busy();
        for (int i : new int[] {-4, 3, 4, 5, 6, MIN, MAX}) {
            is("pattern(0, " + i + ")", x.pattern(0, i), -1000);
        }
        for (int k : new int[] {-1, x.patterns(), MIN, MAX}) {
            for (int i = -3; i < 3; i++) {
                is("pattern(" + k + ", " + i + ")", x.pattern(k, i), -1000);
            }
        }
        yes("the last one is there", x.pattern(x.patterns() - 1, 2) == 1);
        x = desk(100, 0, 1, 1, 2, 3, 4, 5, 6);
        is("the 6th WIDTH", x.pattern(5, 5), 1);
        is("a 7th", x.pattern(5, 6), -1000);
    }

    // ---- promise 10

    @Says("The number of the PATTERN with these COUNTS")
    static void p10_eachPatternIsFound() {
        ReelSlitter x = desk(100, 0, 3, 10, 20, 30, 40, 50, 60);
        int all = x.patterns();
        is("6 alone, 19 of two, 28 of three pieces", all, 53);
        for (int k = 0; k < all; k++) {
            int[] c = new int[6];
            for (int i = 0; i < 6; i++) {
                c[i] = (int) x.pattern(k, i);
            }
            is("find of " + k, number(x, c), k);
        }
        is("one knife, the 6th WIDTH", number(desk(100, 0, 1, 1, 2, 3, 4, 5, 6), 0, 0, 0, 0, 0, 1), 5);
        is("20 of one", number(desk(100, 0, 20, 1), 20), 0);
    }

    @Says("(of WIDTHS that are there; others must be 0).")
    static void p10_othersMustBe0() {
        ReelSlitter x = desk(100, 0, 3, 30, 20);
        is("others 0", x.find(1, 1, 0, 0, 0, 0), number(x, 1, 1));
        yes("which is there", number(x, 1, 1) >= 0);
        is("the third is 1", x.find(1, 1, 1, 0, 0, 0), -1);
        is("the fourth is 1", x.find(1, 1, 0, 1, 0, 0), -1);
        is("the fifth is 1", x.find(1, 1, 0, 0, 1, 0), -1);
        is("the sixth is 1", x.find(1, 1, 0, 0, 0, 1), -1);
        is("the third is -1", x.find(1, 1, -1, 0, 0, 0), -1);
        is("the sixth is MIN", x.find(1, 1, 0, 0, 0, MIN), -1);
        is("the sixth is 32", x.find(1, 1, 0, 0, 0, 32), -1);
        is("the third alone", x.find(0, 0, 1, 0, 0, 0), -1);
        is("a third WIDTH comes", x.width(10, 0), 2);
        yes("now it is there", x.find(1, 1, 1, 0, 0, 0) >= 0);
    }

    @Says("NONE: none such FITS, or there are no numbers.")
    static void p10_noneSuchFits() {
        ReelSlitter x = desk(100, 5, 3, 30, 20);
        is("nothing", x.find(0, 0, 0, 0, 0, 0), -1);
        is("as many as KNIVES, the room is full", x.find(3, 0, 0, 0, 0, 0), 0);
        is("above KNIVES", x.find(0, 4, 0, 0, 0, 0), -1);
        is("above KNIVES in all", x.find(2, 2, 0, 0, 0, 0), -1);
        yes("the room is 89", x.mill(99, 5, 3));
        is("above the room", x.find(3, 0, 0, 0, 0, 0), -1);
        is("below 0", x.find(-1, 0, 0, 0, 0, 0), -1);
        is("below 0 beside others", x.find(2, -1, 0, 0, 0, 0), -1);
        is("21", desk(100, 0, 20, 1).find(21, 0, 0, 0, 0, 0), -1);
    }

    @Says("NONE: none such FITS, or there are no numbers.")
    static void p10_countsThatWrapAround() {
        ReelSlitter x = desk(100, 5, 3, 30, 20, 10);
        is("31", x.find(0, 31, 0, 0, 0, 0), -1);
        is("32", x.find(0, 32, 0, 0, 0, 0), -1);
        is("33", x.find(1, 33, 0, 0, 0, 0), -1);
        is("2 to the 30th", x.find(1 << 30, 1, 0, 0, 0, 0), -1);
        is("in all 1, by wrap-around", x.find(MAX, MAX, 3, 0, 0, 0), -1);
        is("in all 2, by wrap-around", x.find(MIN, MIN, 2, 0, 0, 0), -1);
        is("MIN", x.find(MIN, 0, 0, 0, 0, 0), -1);
        is("MAX", x.find(0, 0, MAX, 0, 0, 0), -1);
    }

    @Says("NONE: none such FITS, or there are no numbers.")
    static void p10_noNumbers() {
        is("3000", number(justFull(), 0, 0, 0, 0, 1), 2999);
        is("3001", number(overfull(), 0, 0, 0, 0, 1), -1);
        is("3001", number(overfull(), 9), -1);
    }

    // ---- promise 11

    @Says("PRICE of a WIDTH;")
    static void p11_eachWidthHasItsOwn() {
        ReelSlitter x = busy();
        yes("price(0, 0)", x.price(0, 0));
        yes("price(2, 1000000)", x.price(2, 1000000));
        is("the first", x.about(0, 4), 0);
        is("the second stays", x.about(1, 4), 40);
        is("the third", x.about(2, 4), 1000000);
        is("the WHOLE stays", x.bound(), -1);
        yes("price(2, 25)", x.price(2, 25));
        is("(5 x 40 + 25) / 170", x.bound(), 2);
    }

    @Says("or (i NONE) the WHOLE (1 to 1000000).")
    static void p11_theWholeIs1To1000000() {
        refused("price(-1, 0)", 0, x -> bit(x.price(-1, 0)));
        refused("price(-1, -1)", 0, x -> bit(x.price(-1, -1)));
        refused("price(-1, MIN)", 0, x -> bit(x.price(-1, MIN)));
        refused("price(-1, 1000001)", 0, x -> bit(x.price(-1, 1000001)));
        refused("price(-1, MAX)", 0, x -> bit(x.price(-1, MAX)));
        ReelSlitter x = desk(100, 0, 1, 50);
        orders(x, 2);
        x.price(0, 1);
        yes("price(-1, 1000000)", x.price(-1, 1000000));
        is("2 / 1000000", x.bound(), 1);
        x.price(0, 1000000);
        is("as much as the WHOLE", x.bound(), 2);
        yes("price(-1, 999999)", x.price(-1, 999999));
        is("more than the WHOLE", x.bound(), -1);
        yes("price(-1, 1)", x.price(-1, 1));
        x.price(0, 1);
        is("2 / 1", x.bound(), 2);
        no("price(-1, 0)", x.price(-1, 0));
        is("still 2 / 1", x.bound(), 2);
    }

    @Says("False: not as told.")
    static void p11_notAsTold() {
        refused("price(0, -1)", 0, x -> bit(x.price(0, -1)));
        refused("price(0, 1000001)", 0, x -> bit(x.price(0, 1000001)));
        refused("price(0, MIN)", 0, x -> bit(x.price(0, MIN)));
        refused("price(0, MAX)", 0, x -> bit(x.price(0, MAX)));
        refused("price(3, 1)", 0, x -> bit(x.price(3, 1)));
        refused("price(-2, 1)", 0, x -> bit(x.price(-2, 1)));
        refused("price(MIN, 1)", 0, x -> bit(x.price(MIN, 1)));
        refused("price(MAX, 1)", 0, x -> bit(x.price(MAX, 1)));
        ReelSlitter x = busy();
        no("3 is not there yet", x.price(3, 5));
        is("it comes", x.width(20, 0), 3);
        is("its PRICE", x.about(3, 4), 0);
        x = desk(100, 0, 1, 1, 2, 3, 4, 5, 6);
        yes("the 6th", x.price(5, 9));
        is("its PRICE", x.about(5, 4), 9);
        no("a 7th", x.price(6, 9));
    }

    // ---- promise 12

    @Says("The PATTERN of most WORTH, of several the first.")
    static void p12_ofSeveralTheFirst() {
        ReelSlitter x = desk(100, 5, 3, 20, 45);
        is("all are worth 0", x.best(), 0);
        x.price(1, 1);
        is("2 x 45", x.best(), number(x, 0, 2));
        x.price(0, 1);
        is("3 x 20 and 2 x 20 + 45 are worth 3: the first", x.best(), 0);
        x.price(1, 2);
        is("2 x 20 + 45 and 2 x 45 are worth 4: the first", x.best(), number(x, 2, 1));
        x.price(0, 0);
        is("2 x 45 alone is worth 4", x.best(), number(x, 0, 2));
        x = desk(100, 0, 1, 50, 40, 30);
        x.price(2, 1);
        is("the last of all", x.best(), 2);
        x.price(1, 1);
        is("of the last two the first", x.best(), 1);
    }

    @Says("The PATTERN of most WORTH, of several the first.")
    static void p12_ofThe3000Any() {
        ReelSlitter x = many(904);
        is("all are worth 0", x.best(), 0);
        x.price(4, 1000000);
        is("10 x 5", x.best(), number(x, 0, 0, 0, 0, 10));
        is("is the last but 9", x.best(), 2990);
    }

    @Says("NONE: none, or no numbers.")
    static void p12_noneOrNoNumbers() {
        is("no WIDTHS", new ReelSlitter().best(), -1);
        is("no room", desk(100, 25, 20, 51).best(), -1);
        is("one", desk(100, 25, 20, 50).best(), 0);
        is("3000", justFull().best(), 0);
        is("3001", overfull().best(), -1);
    }

    // ---- promise 13

    @Says("The BOUND.")
    static void p13_theBound() {
        ReelSlitter x = busy();
        is("(7 x 50 + 5 x 40 + 25) / 170", x.bound(), 4);
        x.price(-1, 575);
        is("575 / 575", x.bound(), 1);
        x.price(-1, 574);
        is("575 / 574", x.bound(), 2);
        orders(x, 0, 0, 8);
        is("nothing is WANTED", x.bound(), 0);
    }

    @Says("NONE: PRICES are not SOUND, or no numbers.")
    static void p13_notSound() {
        ReelSlitter x = busy();
        x.price(-1, 160);
        is("4 x 45 is worth 160", x.bound(), 4);
        x.price(-1, 159);
        is("which is more than 159", x.bound(), -1);
        orders(x, 0, 0, 0);
        is("also if nothing is WANTED", x.bound(), -1);
    }

    @Says("NONE: PRICES are not SOUND, or no numbers.")
    static void p13_noNumbers() {
        is("3000", justFull().bound(), 1);
        is("3001", overfull().bound(), -1);
        ReelSlitter x = many(905);
        is("also without PRICES", x.bound(), -1);
    }

    @Says("(Without PATTERNS that FIT they are SOUND.)")
    static void p13_withoutPatterns() {
        is("no WIDTHS", new ReelSlitter().bound(), 0);
        ReelSlitter x = desk(100, 25, 1, 51);
        orders(x, 40);
        x.price(0, 1000000);
        is("40 x 1000000 / 1", x.bound(), 40000000);
        yes("a MILL with room for 51", x.mill(101, 25, 1));
        is("1000000 is more than 1", x.bound(), -1);
    }
}
