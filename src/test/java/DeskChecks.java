import java.util.ArrayList;
import java.util.List;

/** What the tests of the promises share: short ways to set a desk up and to look at it. */
abstract class DeskChecks {
    static final int MIN = Integer.MIN_VALUE;
    static final int MAX = Integer.MAX_VALUE;
    static final Check CHECK = new Check();

    interface Maker {
        ReelSlitter make();
    }

    interface Call {
        long on(ReelSlitter x);
    }

    static void is(String call, long got, long due) {
        CHECK.same(call, got, due);
    }

    static void yes(String call, boolean got) {
        CHECK.same(call, got, true);
    }

    static void no(String call, boolean got) {
        CHECK.same(call, got, false);
    }

    static long bit(boolean answer) {
        return answer ? 1 : 0;
    }

    /** A desk with the MILL and WIDTHS told, nothing ORDERED. */
    static ReelSlitter desk(int w, int edge, int knives, int... widths) {
        ReelSlitter x = new ReelSlitter();
        yes("mill", x.mill(w, edge, knives));
        for (int i = 0; i < widths.length; i++) {
            is("width", x.width(widths[i], 0), i);
        }
        return x;
    }

    static void orders(ReelSlitter x, int... pieces) {
        for (int i = 0; i < pieces.length; i++) {
            yes("order", x.order(i, pieces[i]));
        }
    }

    static int number(ReelSlitter x, int... counts) {
        int[] c = java.util.Arrays.copyOf(counts, 6);
        return x.find(c[0], c[1], c[2], c[3], c[4], c[5]);
    }

    /** A SLOT more of n ROLLS of these COUNTS. */
    static int add(ReelSlitter x, int n, int... counts) {
        return x.slot(number(x, counts), n);
    }

    static long fitsFlawed(ReelSlitter x, int... counts) {
        return x.pattern(number(x, counts), -3);
    }

    static void counts(String about, ReelSlitter x, int s, int rolls, int... counts) {
        is(about + ": rolls of slot " + s, x.slotted(s, 0), rolls);
        for (int i = 0; i < counts.length; i++) {
            is(about + ": count " + i + " of slot " + s, x.slotted(s, 10 + i), counts[i]);
        }
    }

    /** 3001 PATTERNS FIT for W 905, 3000 for 904: 10 small pieces of 5 WIDTHS make 3002, less 10 x 100, less 9 x 100 + 5. */
    static ReelSlitter many(int w) {
        return desk(w, 0, 10, 100, 2, 3, 4, 5);
    }

    /** A desk on which each part of the state differs from that of a new one, and the PLAN from what is kept. */
    static ReelSlitter busy() {
        ReelSlitter x = desk(200, 10, 4, 60, 45, 30);
        orders(x, 7, 5, 9);
        x.strip(70, 90);
        x.length(10);
        x.price(0, 50);
        x.price(1, 40);
        x.price(2, 25);
        x.price(-1, 170);
        x.lot(95, 3, true);
        x.lot(40, 0, false);
        x.lot(1000, 2, false);
        add(x, 2, 3, 0, 0);
        add(x, 1, 1, 2, 1);
        add(x, 5, 0, 0, 4);
        x.keep();
        is("the busy desk's cut", x.cut(2, 0, 25), 0);
        yes("the busy desk's drop", x.drop(1));
        return x;
    }

    /** Makes two desks alike, refuses a call on one of them, and sees that none of the calls of view tells them apart. */
    static void refused(String call, long due, Maker maker, Call refusal) {
        ReelSlitter x = maker.make();
        is(call, refusal.on(x), due);
        List<String> due2 = view(maker.make());
        List<String> got = view(x);
        CHECK.same("views behind " + call, got.size(), due2.size());
        for (int n = 0; n < Math.min(got.size(), due2.size()); n++) {
            CHECK.same("behind " + call, got.get(n), due2.get(n));
        }
    }

    /** The same on the busy desk. */
    static void refused(String call, long due, Call refusal) {
        refused(call, due, DeskChecks::busy, refusal);
    }

    /** What some 300 calls show of a desk, so that a desk of up to 200 calls stays within the 512 that are promised. */
    private static List<String> view(ReelSlitter x) {
        List<String> seen = new ArrayList<>();
        viewPatterns(seen, x);
        for (int i = 0; i < 6; i++) {
            for (int what = 0; what <= 5; what++) {
                note(seen, "about(" + i + ", " + what + ")", x.about(i, what));
            }
        }
        viewPlan(seen, x);
        viewStock(seen, x);
        note(seen, "undo()", bit(x.undo()));
        viewPlan(seen, x);
        note(seen, "greedy()", x.greedy());
        viewPlan(seen, x);
        note(seen, "fewest()", x.fewest());
        viewPlan(seen, x);
        note(seen, "drop(0)", bit(x.drop(0)));
        int s = x.slot(0, 5);
        note(seen, "slot(0, 5)", s);
        for (int l = 0; l < 4; l++) {
            note(seen, "cut(" + s + ", " + l + ", 57)", x.cut(s, l, 57));
        }
        viewStock(seen, x);
        return seen;
    }

    private static void note(List<String> seen, String call, long answer) {
        seen.add(call + " " + answer);
    }

    private static void viewPatterns(List<String> seen, ReelSlitter x) {
        int all = x.patterns();
        note(seen, "patterns()", all);
        for (int k : new int[] {0, 1, all / 2, all - 1}) {
            for (int i = -3; i < 6; i++) {
                note(seen, "pattern(" + k + ", " + i + ")", x.pattern(k, i));
            }
        }
        note(seen, "best()", x.best());
        note(seen, "bound()", x.bound());
    }

    private static void viewPlan(List<String> seen, ReelSlitter x) {
        int size = x.plan(0);
        for (int what = 0; what <= 5; what++) {
            note(seen, "plan(" + what + ")", x.plan(what));
        }
        for (int s : new int[] {0, 1, size - 1}) {
            for (int what : new int[] {0, 1, 2, 3, 10, 11, 12, 13, 14, 15}) {
                note(seen, "slotted(" + s + ", " + what + ")", x.slotted(s, what));
            }
        }
    }

    private static void viewStock(List<String> seen, ReelSlitter x) {
        for (int l = 0; l < 8; l++) {
            for (int what = 0; what <= 2; what++) {
                note(seen, "lotted(" + l + ", " + what + ")", x.lotted(l, what));
            }
        }
        for (int what = 0; what <= 6; what++) {
            note(seen, "area(" + what + ")", x.area(what));
        }
    }
}
