/** Each promise by number: ordinary inputs, the edges that the document names, and wrong inputs. */
public final class PromiseTest extends DeskChecks {
    public static void main(String[] args) {
        newObject();
        mill();
        strip();
        width();
        order();
        length();
        about();
        patterns();
        pattern();
        find();
        price();
        best();
        bound();
        greedy();
        fewest();
        slot();
        drop();
        slotted();
        plan();
        line();
        lot();
        lotted();
        cut();
        area();
        keep();
        undo();
        share();
        CHECK.end();
    }

    private static void newObject() {
        CHECK.on("promise 1");
        ReelSlitter x = new ReelSlitter();
        is("patterns()", x.patterns(), 0);
        is("about(0, 0)", x.about(0, 0), -1);
        is("lotted(0, 0)", x.lotted(0, 0), -1);
        for (int what = 0; what <= 5; what++) {
            is("plan", x.plan(what), 0);
        }
        for (int what = 0; what <= 6; what++) {
            is("area", x.area(what), 0);
        }
        no("undo()", x.undo());
        is("width(1001, 1)", x.width(1001, 1), -1);
        is("width(1000, 1)", x.width(1000, 1), 0);
        is("a piece of 1000 fits without an edge", x.patterns(), 1);
        is("width(1, 1)", x.width(1, 1), 1);
        is("10 knives", x.patterns(), 11);
        is("W 1000", x.pattern(1, -1), 990);
        is("no strip", x.pattern(0, -3), 1);
        is("price", x.about(0, 4), 0);
        yes("price(0, 1)", x.price(0, 1));
        is("the whole is 1", x.bound(), 1);
        yes("price(0, 2)", x.price(0, 2));
        is("the whole is 1", x.bound(), -1);
        x.slot(0, 1);
        is("a cut at 0 and at 1000, from nothing", x.plan(3), 2);
        x.lot(299, 1, true);
        is("cut", x.cut(0, 0, 299), 0);
        is("length 100", x.area(5), 2);
    }

    private static void mill() {
        CHECK.on("promise 2");
        ReelSlitter x = new ReelSlitter();
        no("w 9", x.mill(9, 0, 1));
        yes("w 10", x.mill(10, 0, 1));
        yes("w 10000", x.mill(10000, 2500, 20));
        no("w 10001", x.mill(10001, 0, 1));
        no("edge above w / 4", x.mill(103, 26, 1));
        yes("edge w / 4", x.mill(103, 25, 1));
        no("edge -1", x.mill(100, -1, 1));
        no("no knives", x.mill(100, 0, 0));
        no("21 knives", x.mill(100, 0, 21));
        no("odd ones", x.mill(MIN, MIN, MIN) || x.mill(MAX, MAX, MAX));
        x = desk(100, 0, 20, 50);
        no("the only width is above w", x.mill(49, 0, 1));
        yes("strip", x.strip(0, 100));
        yes("mill", x.mill(50, 0, 20));
        is("the strip goes, also without an edge", x.pattern(0, -3), 1);
        x = desk(100, 10, 2, 40, 70);
        yes("strip", x.strip(30, 60));
        is("slot", x.slot(0, 3), 0);
        no("a width is above w", x.mill(69, 0, 3));
        is("nothing is done", x.plan(1), 3);
        is("nothing is done", x.patterns(), 3);
        is("nothing is done: the strip stays", x.pattern(0, -3), 0);
        yes("as wide as the width", x.mill(70, 5, 3));
        is("the plan goes", x.plan(0), 0);
        is("W 70, edge 5: one piece of 40", x.patterns(), 1);
        is("waste", x.pattern(0, -1), 30);
        is("the strip goes", x.pattern(0, -3), 1);
        yes("w again", x.mill(100, 0, 3));
        is("3 knives: 2 x 40, 40, 70", x.patterns(), 3);
    }

    private static void strip() {
        CHECK.on("promise 3");
        ReelSlitter x = desk(100, 5, 4, 30, 20);
        no("f -1", x.strip(-1, 10));
        no("g below f", x.strip(11, 10));
        no("g above w", x.strip(50, 101));
        no("odd ones", x.strip(MIN, MAX) || x.strip(MAX, MIN) || x.strip(MAX, MAX));
        yes("a strip", x.strip(35, 45));
        int k = x.find(1, 2, 0, 0, 0, 0);
        is("30 on the left, 40 on the right", x.pattern(k, -3), 1);
        no("wrong", x.strip(0, 101));
        is("the old one stays", x.pattern(x.find(3, 0, 0, 0, 0, 0), -3), 0);
        yes("strip", x.strip(34, 45));
        is("20 on the left, 30 and 20 on the right", x.pattern(k, -3), 1);
        yes("strip", x.strip(34, 46));
        is("29 on the left, 49 on the right: 30 and 20 are too much", x.pattern(k, -3), 0);
        is("2 x 20 on the right, 20 on the left", x.pattern(x.find(0, 3, 0, 0, 0, 0), -3), 1);
        yes("all is flawed", x.strip(0, 100));
        is("nothing fits", x.pattern(x.find(0, 1, 0, 0, 0, 0), -3), 0);
        yes("nothing is flawed", x.strip(100, 100));
        is("all fit", x.pattern(0, -3), 1);
        yes("a strip within the left edge", x.strip(0, 5));
        is("all fit", x.pattern(0, -3), 1);
        yes("a strip within the right edge", x.strip(95, 100));
        is("all fit", x.pattern(0, -3), 1);
        yes("a strip past the left edge", x.strip(0, 6));
        is("90 is too much", x.pattern(0, -3), 0);
        x.slot(0, 1);
        x.strip(1, 2);
        is("the plan stays", x.plan(0), 1);
        x = desk(100, 0, 1, 1);
        yes("all is flawed", x.strip(0, 100));
        is("not even 1 fits", x.pattern(0, -3), 0);
        yes("1 is sound on the left", x.strip(1, 100));
        is("1 fits", x.pattern(0, -3), 1);
        yes("1 is sound on the right", x.strip(0, 99));
        is("1 fits", x.pattern(0, -3), 1);
        yes("an empty strip", x.strip(50, 50));
        x = desk(100, 0, 1, 100);
        yes("an empty strip in the midst", x.strip(50, 50));
        is("100 fits", x.pattern(0, -3), 1);
    }

    private static void width() {
        CHECK.on("promise 4");
        ReelSlitter x = desk(100, 0, 2, 50);
        x.slot(0, 1);
        is("w 0", x.width(0, 1), -1);
        is("above w", x.width(101, 1), -1);
        is("pieces -1", x.width(10, -1), -1);
        is("pieces 41", x.width(10, 41), -1);
        is("is there", x.width(50, 1), -1);
        is("odd ones", x.width(MIN, MIN) + x.width(MAX, MAX), -2);
        is("nothing is done", x.plan(0), 1);
        is("width(100, 40)", x.width(100, 40), 1);
        is("the plan goes", x.plan(0), 0);
        is("ordered", x.about(1, 1), 40);
        yes("strip", x.strip(50, 100));
        is("width(1, 0)", x.width(1, 0), 2);
        is("the strip stays", x.pattern(0, -3), 0);
        is("patterns change", x.patterns(), 6);
        is("width", x.width(2, 0), 3);
        is("width", x.width(3, 0), 4);
        is("width", x.width(4, 0), 5);
        is("a 7th", x.width(5, 0), -1);
        is("six", x.about(6, 0), -1);
    }

    private static void order() {
        CHECK.on("promise 5");
        ReelSlitter x = desk(100, 0, 2, 50, 30);
        x.slot(0, 1);
        yes("40", x.order(1, 40));
        is("ordered", x.about(1, 1), 40);
        is("the other one stays", x.about(0, 1), 0);
        no("41", x.order(1, 41));
        no("-1", x.order(1, -1));
        no("no such width", x.order(2, 1));
        no("no such width", x.order(-1, 1));
        no("odd ones", x.order(MIN, MIN) || x.order(MAX, MAX));
        is("ordered", x.about(1, 1), 40);
        yes("0", x.order(1, 0));
        is("ordered", x.about(1, 1), 0);
        is("the plan stays", x.plan(0), 1);
    }

    private static void length() {
        CHECK.on("promise 6");
        ReelSlitter x = desk(100, 0, 2, 50);
        no("0", x.length(0));
        no("10001", x.length(10001));
        no("odd ones", x.length(MIN) || x.length(MAX));
        yes("10000", x.length(10000));
        x.slot(0, 9);
        x.lot(9999, 1, false);
        is("cut", x.cut(0, 0, 9999), 0);
        is("no sets", x.area(5), 0);
        yes("nothing is done yet", x.length(1));
        x.lot(3, 1, false);
        is("cut", x.cut(0, 1, 3), 0);
        is("3 sets", x.area(5), 3);
        no("something is done", x.length(1));
        x.lot(3, 1, false);
        is("cut", x.cut(0, 2, 3), 0);
        is("length is still 1", x.area(5), 6);
        x = desk(100, 0, 1, 50);
        x.slot(0, 1);
        x.lot(100, 1, false);
        is("cut", x.cut(0, 0, 100), 0);
        no("just one piece is done", x.length(99));
    }

    private static void about() {
        CHECK.on("promise 7");
        ReelSlitter x = desk(100, 0, 3, 50, 30);
        orders(x, 7, 5);
        yes("price", x.price(1, 12));
        is("slot (0, 3)", add(x, 2, 0, 3, 0), 0);
        is("slot (1, 1)", add(x, 3, 1, 1, 0), 1);
        is("millimetres", x.about(1, 0), 30);
        is("ordered", x.about(1, 1), 5);
        is("done", x.about(1, 2), 0);
        is("wanted", x.about(1, 3), 5);
        is("price", x.about(1, 4), 12);
        is("in the plan", x.about(1, 5), 9);
        is("in the plan", x.about(0, 5), 3);
        x.lot(200, 1, false);
        is("cut", x.cut(0, 0, 200), 0);
        is("done", x.about(1, 2), 6);
        is("wanted, at least 0", x.about(1, 3), 0);
        is("wanted", x.about(0, 3), 7);
        is("in the plan", x.about(1, 5), 6);
        is("no such what", x.about(1, 6) + x.about(1, -1) + x.about(1, MIN) + x.about(1, MAX), -4);
        is("no such width", x.about(2, 0) + x.about(-1, 0) + x.about(MIN, 0) + x.about(MAX, 0), -4);
    }

    private static void patterns() {
        CHECK.on("promise 8");
        is("a room of just two", desk(100, 0, 10, 50).patterns(), 2);
        is("an edge of 1", desk(100, 1, 10, 50).patterns(), 1);
        is("20 knives", desk(100, 0, 20, 1).patterns(), 20);
        is("wider than the room", desk(100, 25, 20, 51).patterns(), 0);
        is("as wide as the room", desk(100, 25, 20, 50).patterns(), 1);
        is("all of 3 knives", desk(10000, 0, 3, 1, 2, 3, 4, 5, 6).patterns(), 83);
        is("3000", many(904).patterns(), 3000);
        ReelSlitter x = many(905);
        x.order(0, 1);
        is("3001", x.patterns(), -2);
        is("no numbers: pattern", x.pattern(0, 0), -1000);
        is("no numbers: find", x.find(1, 0, 0, 0, 0, 0), -1);
        is("no numbers: slot", x.slot(0, 1), -1);
        is("no numbers: best", x.best(), -1);
        is("no numbers: bound", x.bound(), -1);
        is("no numbers: fewest", x.fewest(), -4);
        is("no numbers: share", x.share(0, 0, 0), -1000000);
        is("greedy needs none", x.greedy(), 1);
        is("230229", desk(10000, 0, 20, 1, 2, 3, 4, 5, 6).patterns(), -2);
        yes("a MILL of fewer", x.mill(904, 0, 10));
        is("numbers again", x.patterns(), 3000);
    }

    private static void pattern() {
        CHECK.on("promise 9");
        ReelSlitter x = desk(100, 5, 3, 20, 45);
        int[][] due = {{3, 0}, {2, 1}, {2, 0}, {1, 1}, {1, 0}, {0, 2}, {0, 1}};
        int[] waste = {40, 15, 60, 35, 80, 10, 55};
        x.price(0, 1000000);
        x.price(1, 7);
        is("patterns()", x.patterns(), 7);
        for (int k = 0; k < 7; k++) {
            is("pattern(" + k + ", 0)", x.pattern(k, 0), due[k][0]);
            is("pattern(" + k + ", 1)", x.pattern(k, 1), due[k][1]);
            is("waste of " + k, x.pattern(k, -1), waste[k]);
            is("worth of " + k, x.pattern(k, -2), 1000000L * due[k][0] + 7 * due[k][1]);
            is("fits a flawed roll: " + k, x.pattern(k, -3), 1);
        }
        yes("45 on the left, 40 on the right", x.strip(50, 55));
        int[] fits = {1, 1, 1, 1, 1, 0, 1};
        for (int k = 0; k < 7; k++) {
            is("fits a flawed roll: " + k, x.pattern(k, -3), fits[k]);
        }
        is("no such width", x.pattern(0, 2), -1000);
        is("no such question", x.pattern(0, -4), -1000);
        is("no such pattern", x.pattern(7, 0) + x.pattern(-1, 0) + x.pattern(MIN, -1) + x.pattern(MAX, -1), -4000);
        is("odd ones", x.pattern(0, MIN) + x.pattern(0, MAX), -2000);
        x = desk(10000, 0, 20, 1);
        x.price(0, 1000000);
        is("the greatest worth", x.pattern(0, -2), 20000000);
    }

    private static void find() {
        CHECK.on("promise 10");
        ReelSlitter x = desk(100, 5, 3, 20, 45);
        is("find(3, 0)", x.find(3, 0, 0, 0, 0, 0), 0);
        is("find(2, 1)", x.find(2, 1, 0, 0, 0, 0), 1);
        is("find(0, 1)", x.find(0, 1, 0, 0, 0, 0), 6);
        is("nothing", x.find(0, 0, 0, 0, 0, 0), -1);
        is("no room", x.find(1, 2, 0, 0, 0, 0), -1);
        is("no knife", x.find(4, 0, 0, 0, 0, 0), -1);
        is("no such widths", x.find(1, 0, 1, 0, 0, 0) + x.find(1, 0, 0, 0, 0, 1), -2);
        is("a width that is not there has no millimetres", x.find(0, 0, 1, 0, 0, 0), -1);
        is("below 0", x.find(3, -1, 0, 0, 0, 0) + x.find(-1, 1, 0, 0, 0, 0), -2);
        is("far above", x.find(2, 33, 0, 0, 0, 0) + x.find(0, 32, 0, 0, 0, 0), -2);
        is("odd ones", x.find(MIN, 0, 0, 0, 0, 0) + x.find(0, 0, 0, 0, 0, MAX) + x.find(3, 0, 0, 0, 0, MIN), -3);
        for (int k = 0; k < 461; k++) {
            x = desk(10000, 0, 5, 1, 2, 3, 4, 5, 6);
            is("find of pattern " + k, x.find((int) x.pattern(k, 0), (int) x.pattern(k, 1), (int) x.pattern(k, 2),
                    (int) x.pattern(k, 3), (int) x.pattern(k, 4), (int) x.pattern(k, 5)), k);
        }
    }

    private static void price() {
        CHECK.on("promise 11");
        ReelSlitter x = desk(100, 0, 1, 20, 45);
        orders(x, 4, 0);
        yes("1000000", x.price(0, 1000000));
        no("1000001", x.price(0, 1000001));
        no("-1", x.price(0, -1));
        no("no such width", x.price(2, 1) || x.price(-2, 1));
        no("whole 0", x.price(-1, 0));
        no("whole 1000001", x.price(-1, 1000001));
        no("odd ones", x.price(MIN, 1) || x.price(MAX, 1) || x.price(0, MIN) || x.price(-1, MAX));
        is("price", x.about(0, 4), 1000000);
        is("the whole is still 1", x.bound(), -1);
        yes("whole 1000000", x.price(-1, 1000000));
        is("sound", x.bound(), 4);
        is("the prices stay", x.about(0, 4), 1000000);
        is("the prices stay", x.about(1, 4), 0);
        yes("0", x.price(0, 0));
        is("price", x.about(0, 4), 0);
        yes("whole 1", x.price(-1, 1));
    }

    private static void best() {
        CHECK.on("promise 12");
        is("none", new ReelSlitter().best(), -1);
        ReelSlitter x = desk(100, 5, 3, 20, 45);
        is("all are worth 0: the first", x.best(), 0);
        x.price(0, 1);
        x.price(1, 3);
        is("(0, 2) is worth 6, (2, 1) 5", x.best(), 5);
        x.price(0, 2);
        x.price(1, 2);
        is("(3, 0) and (2, 1) are worth 6: the first", x.best(), 0);
        x.price(0, 1);
        x.price(1, 2);
        is("(2, 1) and (0, 2) are worth 4: the first", x.best(), 1);
        x = many(904);
        x.price(4, 1);
        is("10 x 5, the last but 9 of 3000", x.best(), 2990);
    }

    private static void bound() {
        CHECK.on("promise 13");
        is("nothing is wanted", new ReelSlitter().bound(), 0);
        ReelSlitter x = desk(100, 0, 10, 45, 36, 31);
        orders(x, 7, 3, 4);
        x.price(0, 45);
        x.price(1, 36);
        x.price(2, 31);
        yes("whole", x.price(-1, 98));
        is("547 / 98, cut up", x.bound(), 6);
        yes("whole", x.price(-1, 97));
        is("(0, 1, 2) is worth 98", x.bound(), -1);
        yes("whole", x.price(-1, 547));
        is("547 / 547", x.bound(), 1);
        yes("whole", x.price(-1, 546));
        is("547 / 546, cut up", x.bound(), 2);
        orders(x, 0, 0, 0);
        is("nothing is wanted", x.bound(), 0);
        x = desk(100, 25, 1, 51);
        orders(x, 40);
        x.price(0, 1000000);
        is("without patterns prices are sound", x.bound(), 40000000);
    }

    private static void greedy() {
        CHECK.on("promise 14");
        ReelSlitter x = desk(100, 0, 10, 31, 45, 36);
        orders(x, 4, 7, 3);
        is("greedy()", x.greedy(), 7);
        is("slots", x.plan(0), 5);
        counts("2 x 45", x, 0, 3, 0, 2, 0);
        counts("45, 36", x, 1, 1, 0, 1, 1);
        counts("2 x 36", x, 2, 1, 0, 0, 2);
        counts("3 x 31", x, 3, 1, 3, 0, 0);
        counts("31", x, 4, 1, 1, 0, 0);
        yes("mill", x.mill(100, 0, 1));
        is("one knife", x.greedy(), 14);
        is("by width", x.plan(0), 3);
        counts("the greatest first", x, 0, 7, 0, 1, 0);
        counts("the least last", x, 2, 4, 1, 0, 0);
        yes("mill", x.mill(100, 25, 2));
        x.slot(0, 9);
        is("room 50", x.greedy(), 14);
        orders(x, 0, 0, 0);
        is("nothing is wanted", x.greedy(), 0);
        is("an empty plan in place of the old one", x.plan(0), 0);
        x = desk(100, 25, 2, 50, 51);
        orders(x, 3, 1);
        x.slot(0, 2);
        is("51 has no room", x.greedy(), -2);
        is("nothing is done", x.plan(1), 2);
        orders(x, 3, 0);
        is("51 is not wanted", x.greedy(), 3);
        x.lot(100, 9, false);
        is("cut", x.cut(0, 0, 100), 0);
        is("what is done is not wanted", x.greedy(), 2);
    }

    private static void fewest() {
        CHECK.on("promise 15");
        is("nothing is wanted", new ReelSlitter().fewest(), 0);
        ReelSlitter x = desk(100, 0, 10, 45, 36, 31);
        orders(x, 7, 3, 4);
        is("greedy()", x.greedy(), 7);
        is("fewest()", x.fewest(), 6);
        counts("at first 2 x 45", x, 0, 3, 2, 0, 0);
        counts("then 45, 36", x, 1, 1, 1, 1, 0);
        counts("then 36, 2 x 31", x, 2, 2, 0, 1, 2);
        is("slots", x.plan(0), 3);
        orders(x, 1, 0, 0);
        is("one piece", x.fewest(), 1);
        counts("the first pattern, with more than is wanted", x, 0, 1, 2, 0, 0);
        orders(x, 0, 0, 0);
        is("nothing is wanted", x.fewest(), 0);
        is("an empty plan in place of the old one", x.plan(0), 0);
        fewestRefused();
        fewestSpent();
        fewestOfSix();
    }

    private static void fewestOfSix() {
        ReelSlitter x = desk(100, 0, 3, 50, 40, 30, 25, 20, 10);
        orders(x, 1, 1, 1, 1, 1, 1);
        is("175 of 100, 6 of 3", x.fewest(), 2);
        counts("50, 40, 10 leaves 30, 25, 20", x, 0, 1, 1, 1, 0, 0, 0, 1);
        counts("the rest, with all knives", x, 1, 1, 0, 0, 1, 1, 1, 0);
        orders(x, 0, 0, 2, 2, 2, 0);
        is("150 of 100, 6 of 3", x.fewest(), 2);
        counts("2 x 30, 25 leaves 25, 2 x 20", x, 0, 1, 0, 0, 2, 1, 0, 0);
        is("greedy() likewise", x.greedy(), 2);
        is("in the plan", x.about(2, 5) + x.about(3, 5) + x.about(4, 5) + x.about(5, 5), 6);
        is("none is missing, none beyond", x.plan(4) + x.plan(5), 0);
    }

    private static void fewestRefused() {
        ReelSlitter x = desk(100, 25, 2, 50, 51);
        orders(x, 3, 1);
        x.slot(0, 2);
        is("51 has no room", x.fewest(), -2);
        is("nothing is done", x.plan(1), 2);
        orders(x, 3, 0);
        is("51 is not wanted", x.fewest(), 3);
        x = desk(100, 25, 2, 51, 50, 49, 48, 47);
        orders(x, 40, 40, 40, 0, 0);
        is("spent is asked ahead of no room", x.fewest(), -4);
        x = desk(1000, 250, 20, 1, 2, 3, 4, 501);
        orders(x, 0, 0, 0, 0, 1);
        is("no numbers", x.patterns(), -2);
        is("no numbers are asked ahead of no room", x.fewest(), -4);
        is("no room", x.greedy(), -2);
    }

    private static void fewestSpent() {
        ReelSlitter x = desk(100, 0, 1, 20, 30, 40);
        orders(x, 24, 39, 4);
        is("25 x 40 x 5 = 5000", x.fewest(), 67);
        is("three slots", x.plan(0), 3);
        orders(x, 20, 39, 5);
        is("21 x 40 x 6 = 5040", x.fewest(), -4);
        is("nothing is done", x.plan(1), 67);
        x = desk(1000, 0, 10, 1, 2, 3, 4);
        is("patterns", x.patterns(), 1000);
        orders(x, 39, 24, 1, 0);
        is("40 x 25 x 2 x 1000 = 2000000", x.fewest(), 7);
        orders(x, 40, 6, 6, 0);
        is("41 x 7 x 7 x 1000 = 2009000", x.fewest(), -4);
        orders(x, 40, 40, 40, 40);
        is("41 x 41 x 41 x 41", x.fewest(), -4);
        x = desk(100, 0, 1, 1, 2, 3, 4, 5, 6);
        orders(x, 40, 40, 40, 40, 40, 40);
        is("a product beyond an int", x.fewest(), -4);
    }

    private static void slot() {
        CHECK.on("promise 16");
        ReelSlitter x = desk(100, 0, 2, 50);
        is("no pattern", x.slot(2, 1) + x.slot(-1, 1) + x.slot(MIN, 1) + x.slot(MAX, 1), -4);
        is("rolls 0", x.slot(0, 0), -1);
        is("rolls 1001", x.slot(0, 1001), -1);
        is("odd ones", x.slot(0, MIN) + x.slot(0, MAX), -2);
        is("nothing is done", x.plan(0), 0);
        is("rolls 1000", x.slot(0, 1000), 0);
        is("the same again is a slot of its own", x.slot(0, 1), 1);
        for (int s = 2; s < 60; s++) {
            is("slot", x.slot(1, 1), s);
        }
        is("there are 60", x.slot(1, 1), -1);
        is("60", x.plan(0), 60);
        counts("the first", x, 0, 1000, 2);
        counts("the last", x, 59, 1, 1);
        x.keep();
        yes("one of 60 goes", x.drop(0));
        counts("the last comes up", x, 58, 1, 1);
        is("59", x.plan(0), 59);
        yes("60 were kept", x.undo());
        counts("the first again", x, 0, 1000, 2);
        counts("the last again", x, 59, 1, 1);
        x.order(0, 1);
        is("a new plan is made in place of the full one", x.greedy(), 1);
    }

    private static void drop() {
        CHECK.on("promise 17");
        ReelSlitter x = desk(100, 0, 3, 30);
        no("no slots", x.drop(0));
        yes("all of none", x.drop(-1));
        x.slot(0, 5);
        x.slot(1, 6);
        x.slot(2, 7);
        no("no such one", x.drop(3) || x.drop(-2) || x.drop(MIN) || x.drop(MAX));
        is("nothing is done", x.plan(0), 3);
        yes("the middle one", x.drop(1));
        counts("the first stays", x, 0, 5, 3);
        counts("the last comes up", x, 1, 7, 1);
        is("two", x.plan(0), 2);
        yes("all", x.drop(-1));
        is("none", x.plan(0), 0);
    }

    private static void slotted() {
        CHECK.on("promise 18");
        ReelSlitter x = desk(100, 5, 4, 30, 20);
        is("slot", add(x, 2, 3, 0, 0), 0);
        is("slot", add(x, 1, 2, 1, 0), 1);
        is("slot", add(x, 8, 0, 4, 0), 2);
        is("rolls", x.slotted(2, 0), 8);
        is("waste of one", x.slotted(2, 1), 20);
        is("waste of one", x.slotted(0, 1), 10);
        is("moves from nothing: 5, 35, 65, 95", x.slotted(0, 2), 4);
        is("moves: 85 is new", x.slotted(1, 2), 1);
        is("moves: 25 and 45 are new, 5, 65, 85 are not", x.slotted(2, 2), 2);
        is("pieces", x.slotted(2, 3), 4);
        is("count", x.slotted(1, 10), 2);
        is("count", x.slotted(1, 11), 1);
        is("no such what", x.slotted(1, 12) + x.slotted(1, 4) + x.slotted(1, 9) + x.slotted(1, -1), -4);
        is("odd ones", x.slotted(1, MIN) + x.slotted(1, MAX), -2);
        is("no such slot", x.slotted(3, 0) + x.slotted(-1, 0) + x.slotted(MIN, 0) + x.slotted(MAX, 0), -4);
        x.lot(100, 9, false);
        is("cut", x.cut(2, 0, 100), 0);
        is("moves from what was cut latest: 35 and 95 are new", x.slotted(0, 2), 2);
        yes("another edge", x.mill(100, 10, 4));
        is("slot", add(x, 1, 2, 1, 0), 0);
        is("the latest cuts stay 5, 25, 45, 65, 85: of 10, 40, 70, 90 all are new", x.slotted(0, 2), 4);
        yes("no edge", x.mill(100, 0, 4));
        is("slot", add(x, 1, 0, 4, 0), 0);
        is("0, 20, 40, 60, 80", x.slotted(0, 2), 5);
        yes("edge", x.mill(105, 5, 4));
        is("slot", add(x, 1, 0, 4, 0), 0);
        is("as the latest", x.slotted(0, 2), 0);
        x = desk(100, 0, 20, 5);
        x.slot(0, 1);
        is("21 cuts", x.slotted(0, 2), 21);
        is("20 pieces", x.slotted(0, 3), 20);
    }

    private static void plan() {
        CHECK.on("promise 19");
        ReelSlitter x = desk(100, 5, 4, 30, 20);
        orders(x, 10, 1);
        add(x, 2, 3, 0, 0);
        add(x, 3, 1, 2, 0);
        is("slots", x.plan(0), 2);
        is("rolls", x.plan(1), 5);
        is("waste of all", x.plan(2), 2 * 10 + 3 * 30);
        is("moves: 4, then 55 and 75", x.plan(3), 6);
        is("wanted and not in it: one of 30", x.plan(4), 1);
        is("beyond: five of 20", x.plan(5), 5);
        is("others", x.plan(6) + x.plan(-1) + x.plan(MIN) + x.plan(MAX), -4);
        orders(x, 8, 9);
        is("wanted and not in it: three of 20", x.plan(4), 3);
        is("beyond: one of 30", x.plan(5), 1);
        x.length(10);
        x.lot(100, 9, false);
        is("cut", x.cut(0, 0, 20), 0);
        is("wanted of 30 are 2, in it are 6", x.plan(5), 4);
        x = desk(10000, 0, 1, 1);
        for (int s = 0; s < 60; s++) {
            x.slot(0, 1000);
        }
        is("all rolls", x.plan(1), 60000);
        is("all waste", x.plan(2), 60000 * 9999);
    }

    private static void line() {
        CHECK.on("promise 20");
        ReelSlitter x = desk(100, 0, 5, 50, 25, 20);
        is("no slots", x.line(), 0);
        add(x, 1, 2, 0, 0);
        add(x, 2, 0, 0, 5);
        add(x, 3, 0, 4, 0);
        is("3 + 4 + 3 + .. as they stand", x.plan(3), 3 + 4 + 3);
        is("(0, 2, 1) is ahead of (2, 0, 1), which makes 5 + 0 + 4", x.line(), 3 + 2 + 4);
        counts("2 x 50", x, 0, 1, 2, 0, 0);
        counts("4 x 25", x, 1, 3, 0, 4, 0);
        counts("5 x 20", x, 2, 2, 0, 0, 5);
        is("that sum", x.plan(3), 9);
        x.drop(-1);
        add(x, 1, 1, 1, 0);
        add(x, 2, 1, 1, 0);
        add(x, 3, 1, 1, 0);
        is("all alike", x.line(), 3);
        for (int s = 0; s < 3; s++) {
            is("of several orders the first", x.slotted(s, 0), s + 1);
        }
        x.drop(-1);
        add(x, 1, 2, 0, 0);
        add(x, 2, 0, 4, 0);
        x.lot(100, 1, false);
        x.keep();
        is("cut", x.cut(1, 0, 100), 0);
        x.undo();
        is("from the latest all cuts are there", x.line(), 0);
        counts("4 x 25 first", x, 0, 2, 0, 4, 0);
        for (int s = 2; s < 8; s++) {
            add(x, 1, 1, 0, 0);
        }
        is("8 are lined", x.line(), 0);
        add(x, 1, 1, 0, 0);
        is("9 are not", x.line(), -1);
        is("nothing is done", x.plan(0), 9);
        x.drop(-1);
        add(x, 1, 0, 0, 5);
        add(x, 2, 2, 0, 0);
        is("fewer behind more", x.line(), 0 + 4);
        counts("2 x 50 first", x, 0, 2, 2, 0, 0);
        x.drop(0);
        is("one: 20, 40, 60, 80 are new", x.line(), 4);
        x.drop(0);
        is("none", x.line(), 0);
    }

    private static void lot() {
        CHECK.on("promise 21");
        ReelSlitter x = new ReelSlitter();
        is("metres 0", x.lot(0, 1, false), -1);
        is("metres 100001", x.lot(100001, 1, false), -1);
        is("rolls -1", x.lot(1, -1, false), -1);
        is("rolls 1001", x.lot(1, 1001, false), -1);
        is("odd ones", x.lot(MIN, MIN, true) + x.lot(MAX, MAX, true), -2);
        is("metres 1, rolls 0", x.lot(1, 0, false), 0);
        is("metres 100000, rolls 1000", x.lot(100000, 1000, true), 1);
        for (int l = 2; l < 8; l++) {
            is("the same once more", x.lot(100000, 1000, true), l);
        }
        is("there are 8", x.lot(1, 1, false), -1);
    }

    private static void lotted() {
        CHECK.on("promise 22");
        ReelSlitter x = new ReelSlitter();
        x.lot(70, 0, false);
        x.lot(80, 9, true);
        is("metres", x.lotted(0, 0), 70);
        is("rolls", x.lotted(0, 1), 0);
        is("flawed", x.lotted(0, 2), 0);
        is("metres", x.lotted(1, 0), 80);
        is("rolls", x.lotted(1, 1), 9);
        is("flawed", x.lotted(1, 2), 1);
        is("no such lot", x.lotted(2, 0) + x.lotted(-1, 0) + x.lotted(MIN, 0) + x.lotted(MAX, 0), -4);
        is("no such what", x.lotted(0, 3) + x.lotted(0, -1) + x.lotted(0, MIN) + x.lotted(0, MAX), -4);
    }

    private static void cut() {
        CHECK.on("promise 23");
        ReelSlitter x = desk(100, 5, 4, 30, 20);
        yes("length", x.length(10));
        orders(x, 40, 40);
        x.strip(40, 50);
        add(x, 2, 3, 0, 0);
        add(x, 9, 1, 2, 0);
        x.lot(40, 0, true);
        x.lot(40, 2, true);
        is("no slot is told first", x.cut(2, 9, 0), 1);
        is("no slot", x.cut(-1, 1, 1) + x.cut(MIN, 1, 1) + x.cut(MAX, 1, 1), 3);
        is("no lot is told next", x.cut(0, 2, 0), 2);
        is("no lot", x.cut(0, -1, 1) + x.cut(0, MIN, 1) + x.cut(0, MAX, 1), 6);
        is("no rolls are told next", x.cut(0, 0, 0), 3);
        is("t 0 is told next", x.cut(0, 1, 0), 4);
        is("t", x.cut(0, 1, 41) + x.cut(0, 1, MIN) + x.cut(0, 1, MAX), 12);
        is("the strip is told last", x.cut(0, 1, 40), 5);
        is("nothing is done", x.area(0) + x.about(0, 2), 0);
        is("30 on the left, 2 x 20 on the right: LEFT 35, RIGHT 45", x.cut(1, 1, 29), 0);
        is("two sets", x.about(0, 2), 2);
        is("two sets", x.about(1, 2), 4);
        is("a roll less", x.lotted(1, 1), 1);
        is("a lot of the rest", x.lotted(2, 0), 11);
        is("of one roll", x.lotted(2, 1), 1);
        is("flawed", x.lotted(2, 2), 1);
        is("a ROLL less", x.slotted(1, 0), 8);
        is("the rest is below LENGTH", x.cut(1, 1, 31), 0);
        is("no lot came", x.lotted(3, 0), -1);
        is("a LOT of no rolls stays", x.lotted(1, 1), 0);
        x.lot(20, 2, false);
        is("a roll without a flaw", x.cut(0, 3, 10), 0);
        is("the rest is just LENGTH", x.lotted(4, 0), 10);
        is("no flaw", x.lotted(4, 2), 0);
        is("the last ROLL of the slot", x.cut(0, 3, 9), 0);
        is("11 came back", x.lotted(5, 0), 11);
        is("no sets of 9 metres", x.about(0, 2), 2 + 3 + 3);
        is("the slot goes", x.plan(0), 1);
        counts("the later one comes up", x, 0, 7, 1, 2);
        cutWithoutPlace();
    }

    private static void cutWithoutPlace() {
        ReelSlitter x = desk(100, 0, 4, 30);
        yes("length", x.length(1));
        x.slot(0, 1000);
        for (int l = 0; l < 8; l++) {
            x.lot(100000, 1000, false);
        }
        is("cut", x.cut(0, 7, 1), 0);
        is("there are 8 lots: lost", x.area(2), 0);
        is("lost", x.area(3), 100L * 100000 - 90);
        is("cut", x.cut(0, 7, 100000), 0);
        is("done", x.about(0, 2), 300003);
    }

    private static void area() {
        CHECK.on("promise 24");
        ReelSlitter x = desk(100, 5, 4, 30, 20);
        yes("length", x.length(10));
        add(x, 2, 3, 0, 0);
        add(x, 2, 2, 1, 0);
        x.lot(57, 5, false);
        is("cut", x.cut(0, 0, 35), 0);
        is("taken", x.area(0), 5700);
        is("used", x.area(1), 10 * 3 * 90);
        is("back", x.area(2), 2200);
        is("lost", x.area(3), 5700 - 2700 - 2200);
        is("rolls", x.area(4), 1);
        is("sets", x.area(5), 3);
        is("moves", x.area(6), 4);
        is("cut", x.cut(1, 0, 57), 0);
        is("taken", x.area(0), 11400);
        is("used", x.area(1), 2700 + 10 * 5 * 80);
        is("back", x.area(2), 2200);
        is("lost", x.area(3), 800 + 5700 - 4000);
        is("rolls", x.area(4), 2);
        is("sets", x.area(5), 8);
        is("moves", x.area(6), 5);
        is("the same again", x.cut(1, 0, 57), 0);
        is("no moves", x.area(6), 5);
        is("others", x.area(7) + x.area(-1) + x.area(MIN) + x.area(MAX), -4);
        yes("mill", x.mill(200, 0, 4));
        is("all stays", x.area(0), 17100);
        x = desk(10000, 0, 20, 500);
        yes("length", x.length(1));
        x.slot(0, 1000);
        x.lot(100000, 1000, false);
        for (int n = 0; n < 400; n++) {
            x.cut(0, 0, 100000);
        }
        is("beyond an int", x.area(1), 400L * 1000000000L);
        is("beyond an int", x.area(0), 400L * 1000000000L);
        is("nothing is lost", x.area(3), 0);
        is("done", x.about(0, 2), 800000000);
    }

    private static void keep() {
        CHECK.on("promise 25");
        ReelSlitter x = desk(100, 0, 3, 30);
        x.slot(0, 5);
        x.keep();
        x.slot(1, 6);
        x.keep();
        x.drop(-1);
        x.slot(2, 7);
        yes("undo()", x.undo());
        is("the latest that was kept", x.plan(0), 2);
        counts("the first", x, 0, 5, 3);
        counts("the second", x, 1, 6, 2);
        x.drop(0);
        is("what is kept is no part of the plan", x.undo() ? x.plan(1) : 0, 11);
        x.lot(100, 9, false);
        x.keep();
        is("cut", x.cut(0, 0, 100), 0);
        yes("undo()", x.undo());
        is("rolls as they were kept", x.slotted(0, 0), 5);
        is("what was cut stays cut", x.area(4), 1);
    }

    private static void undo() {
        CHECK.on("promise 26");
        ReelSlitter x = desk(100, 0, 3, 30);
        no("nothing is kept", x.undo());
        x.slot(0, 5);
        no("nothing is kept", x.undo());
        is("nothing is done", x.plan(1), 5);
        x.keep();
        no("mill that is refused", x.mill(1, 1, 1));
        is("width that is refused", x.width(30, 1), -1);
        x.drop(-1);
        x.order(0, 9);
        x.strip(1, 2);
        x.length(7);
        yes("undo()", x.undo());
        yes("and again", x.undo());
        is("as it was kept", x.plan(1), 5);
        yes("mill", x.mill(100, 0, 3));
        no("mill was done", x.undo());
        is("nothing is done", x.plan(0), 0);
        x.keep();
        x.slot(0, 1);
        yes("an empty plan was kept", x.undo());
        is("empty", x.plan(0), 0);
        is("width", x.width(31, 1), 1);
        no("width was done", x.undo());
    }

    private static void share() {
        CHECK.on("promise 27");
        ReelSlitter x = desk(100, 5, 4, 30, 20);
        is("90 / 1", x.share(0, 1, 0), 90);
        is("90 % 1", x.share(0, 1, 1), 0);
        is("90 / 7", x.share(0, 7, 0), 12);
        is("90 % 7", x.share(0, 7, 1), 6);
        is("90 / -7", x.share(0, -7, 0), -12);
        is("90 % -7", x.share(0, -7, 1), 6);
        is("90 / MIN", x.share(0, MIN, 0), 0);
        is("90 % MIN", x.share(0, MIN, 1), 90);
        is("90 / -1", x.share(0, -1, 0), -90);
        is("90 % MAX", x.share(0, MAX, 1), 90);
        is("no such what", x.share(0, 7, 2) + x.share(0, 0, -1), -2000000);
        is("no such pattern", x.share(-1, 0, 0) + x.share(x.patterns(), 0, 1), -2000000);
        is("odd ones", x.share(MIN, 0, MIN) + x.share(MAX, 0, MAX), -2000000);
        yes("0 / 0 throws", throwsArithmetic(x, 0, 0));
        yes("0 % 0 throws", throwsArithmetic(x, 0, 1));
        no("no such what: nothing is thrown", throwsArithmetic(x, 0, 2));
        no("no such pattern: nothing is thrown", throwsArithmetic(x, 99, 0));
    }

    private static boolean throwsArithmetic(ReelSlitter x, int k, int what) {
        try {
            x.share(k, 0, what);
            return false;
        } catch (ArithmeticException e) {
            return true;
        }
    }
}
