import java.util.Random;

/** Runs of 512 calls from fixed seeds: the class and the naive desk answer alike, call by call. */
public final class RandomRunsTest {
    private static final int RUNS = 2000;
    private static final int MOST_CALLS = 512;
    /** A call below may make up to 70 calls of the desk and look 30 times behind them. */
    private static final int LAST_START = 400;
    private static final int[] ODD = {Integer.MIN_VALUE, -4, -3, -2, -1, 0, 1, 2, 5, 6, 7, 8, 9, 16, 61, Integer.MAX_VALUE};

    private final Check check;
    private final Random random;
    private final ReelSlitter desk = new ReelSlitter();
    private final NaiveDesk naive = new NaiveDesk();
    private final int scale;
    private final boolean narrow;
    private int calls = 0;

    private RandomRunsTest(Check check, long seed) {
        this.check = check;
        this.random = new Random(seed);
        this.scale = new int[] {20, 60, 100, 300, 1000, 10000}[(int) (seed % 6)];
        this.narrow = seed % 5 == 0;
        check.on("seed " + seed);
    }

    public static void main(String[] args) {
        Check check = new Check();
        for (long seed = 0; seed < RUNS && check.wrongOnes() == 0; seed++) {
            new RandomRunsTest(check, seed).run();
        }
        check.end();
    }

    private void run() {
        setUp();
        while (calls < LAST_START && check.wrongOnes() == 0) {
            call(random.nextInt(100));
            if (random.nextInt(20) == 0) {
                look(30);
            }
        }
        look(MOST_CALLS);
    }

    private int upTo(int most) {
        return random.nextInt(most + 1);
    }

    /** A number of 0 to most, or now and then an odd one. */
    private int some(int most) {
        return random.nextInt(12) == 0 ? ODD[random.nextInt(ODD.length)] : upTo(most);
    }

    private void setUp() {
        mill(scale, upTo(scale / 4) * upTo(1), 1 + upTo(random.nextBoolean() || narrow ? 19 : 5));
        int widths = narrow ? 3 + upTo(3) : upTo(6);
        for (int n = 0; n < widths; n++) {
            width(someWidth(), upTo(random.nextInt(4) == 0 ? 40 : 6));
        }
        length(1 + upTo(50));
    }

    private int someWidth() {
        if (narrow) {
            return 1 + upTo(scale / 5);
        }
        return random.nextBoolean() ? 1 + upTo(scale - 1) : 1 + scale / 8 + upTo(scale / 3);
    }

    private int somePattern() {
        int all = naive.patterns();
        return all > 0 && random.nextInt(10) > 0 ? random.nextInt(all) : some(20);
    }

    private int someSlot() {
        return some(Math.max(0, naive.plan(0) - random.nextInt(2)));
    }

    private void call(int kind) {
        if (kind < 1) mill(scale + some(3), some(scale / 4), some(20));
        else if (kind < 5) strip(some(scale), some(scale));
        else if (kind < 6) width(some(scale), some(40));
        else if (kind < 11) order(some(6), random.nextInt(3) == 0 ? some(41) : upTo(6));
        else if (kind < 13) length(some(100));
        else if (kind < 22) pattern(somePattern(), some(8) - 3);
        else if (kind < 28) findOne();
        else if (kind < 34) price(some(6) - 1, some(random.nextBoolean() ? 30 : 1000000));
        else if (kind < 36) same("best()", desk.best(), naive.best());
        else if (kind < 39) same("bound()", desk.bound(), naive.bound());
        else if (kind < 42) same("greedy()", desk.greedy(), naive.greedy());
        else if (kind < 43) fewest();
        else if (kind < 53) slot(somePattern(), random.nextInt(4) == 0 ? some(1001) : 1 + upTo(3));
        else if (kind < 56) drop(someSlot() - upTo(1));
        else if (kind < 63) slotted(someSlot(), some(17));
        else if (kind < 66) line();
        else if (kind < 70) lot(random.nextInt(4) == 0 ? some(100001) : 1 + upTo(300), some(4), random.nextBoolean());
        else if (kind < 88) cut(someSlot(), some(7), random.nextInt(3) == 0 ? some(300) : 1 + upTo(100));
        else if (kind < 91) keep();
        else if (kind < 94) same("undo()", desk.undo(), naive.undo());
        else share(somePattern(), some(9) - 4, some(2));
    }

    private void same(String call, long got, long due) {
        calls++;
        check.same(call, got, due);
    }

    private void same(String call, boolean got, boolean due) {
        same(call, got ? 1 : 0, due ? 1 : 0);
    }

    private void mill(int w, int edge, int knives) {
        same("mill(" + w + ", " + edge + ", " + knives + ")", desk.mill(w, edge, knives), naive.mill(w, edge, knives));
    }

    private void strip(int f, int g) {
        int low = random.nextInt(5) == 0 ? f : Math.min(f, g);
        int high = Math.max(f, g);
        same("strip(" + low + ", " + high + ")", desk.strip(low, high), naive.strip(low, high));
    }

    private void width(int w, int pieces) {
        same("width(" + w + ", " + pieces + ")", desk.width(w, pieces), naive.width(w, pieces));
    }

    private void order(int i, int pieces) {
        same("order(" + i + ", " + pieces + ")", desk.order(i, pieces), naive.order(i, pieces));
    }

    private void length(int metres) {
        same("length(" + metres + ")", desk.length(metres), naive.length(metres));
    }

    private void pattern(int k, int i) {
        same("pattern(" + k + ", " + i + ")", desk.pattern(k, i), naive.pattern(k, i));
    }

    private void findOne() {
        int[] c = new int[6];
        int k = somePattern();
        for (int i = 0; i < 6; i++) {
            c[i] = (int) Math.max(0, naive.pattern(k, i));
            if (random.nextInt(20) == 0) c[i] = some(32);
        }
        same("find(" + java.util.Arrays.toString(c) + ")", desk.find(c[0], c[1], c[2], c[3], c[4], c[5]),
                naive.find(c[0], c[1], c[2], c[3], c[4], c[5]));
    }

    private void price(int i, int p) {
        same("price(" + i + ", " + p + ")", desk.price(i, p), naive.price(i, p));
    }

    private void fewest() {
        same("fewest()", desk.fewest(), naive.fewest());
        look(30);
    }

    private void slot(int k, int n) {
        same("slot(" + k + ", " + n + ")", desk.slot(k, n), naive.slot(k, n));
    }

    private void drop(int s) {
        same("drop(" + s + ")", desk.drop(s), naive.drop(s));
    }

    private void slotted(int s, int what) {
        same("slotted(" + s + ", " + what + ")", desk.slotted(s, what), naive.slotted(s, what));
    }

    private void line() {
        int most = 5 + upTo(3);
        for (int n = naive.plan(0); n < most; n++) {
            slot(somePattern(), 1);
        }
        for (int n = naive.plan(0); n > most; n--) {
            drop(random.nextInt(n));
        }
        if (random.nextInt(10) == 0) {
            slot(somePattern(), 1);
            slot(somePattern(), 2);
        }
        same("line()", desk.line(), naive.line());
        look(30);
    }

    private void lot(int metres, int rolls, boolean flawed) {
        same("lot(" + metres + ", " + rolls + ", " + flawed + ")", desk.lot(metres, rolls, flawed),
                naive.lot(metres, rolls, flawed));
    }

    private void cut(int s, int l, int t) {
        same("cut(" + s + ", " + l + ", " + t + ")", desk.cut(s, l, t), naive.cut(s, l, t));
    }

    private void keep() {
        calls++;
        desk.keep();
        naive.keep();
    }

    private void share(int k, int v, int what) {
        same("share(" + k + ", " + v + ", " + what + ")", shareOfDesk(k, v, what), shareOfNaive(k, v, what));
    }

    private long shareOfDesk(int k, int v, int what) {
        try {
            return desk.share(k, v, what);
        } catch (ArithmeticException e) {
            return Long.MAX_VALUE;
        }
    }

    private long shareOfNaive(int k, int v, int what) {
        try {
            return naive.share(k, v, what);
        } catch (ArithmeticException e) {
            return Long.MAX_VALUE;
        }
    }

    private void look(int times) {
        for (int n = 0; n < times && calls < MOST_CALLS; n++) {
            lookOnce(random.nextInt(10), random.nextInt(9) - 1);
        }
    }

    private void lookOnce(int kind, int what) {
        int i = random.nextInt(9) - 1;
        if (kind < 1) same("patterns()", desk.patterns(), naive.patterns());
        else if (kind < 2) same("plan(" + what + ")", desk.plan(what), naive.plan(what));
        else if (kind < 4) same("area(" + what + ")", desk.area(what), naive.area(what));
        else if (kind < 6) same("about(" + i + ", " + what + ")", desk.about(i, what), naive.about(i, what));
        else if (kind < 7) same("lotted(" + i + ", " + what + ")", desk.lotted(i, what), naive.lotted(i, what));
        else slotted(random.nextInt(naive.plan(0) + 2) - 1, random.nextInt(19) - 1);
    }
}
