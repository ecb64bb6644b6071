/**
 * A reel slitter's desk: wide rolls are cut across into the widths that are ordered.
 * The words in capitals are those of the document.
 */
public final class ReelSlitter {
    public static final int NONE = -1;

    private static final int TOO_MANY = -2;
    private static final int NO_ROOM = -2;
    private static final int NO_SLOT_LEFT = -3;
    private static final int SPENT = -4;
    private static final int NO_SUCH_COUNT = -1000;
    private static final int NO_SUCH_SHARE = -1000000;

    private static final int ASK_WORTH = -2;
    private static final int ASK_FLAWED = -3;
    private static final int ASK_COUNTS = 10;

    private static final int LEAST_W = 10;
    private static final int MOST_W = 10000;
    private static final int MOST_KNIVES = 20;
    private static final int MOST_WIDTHS = 6;
    private static final int MOST_ORDERED = 40;
    private static final int MOST_LENGTH = 10000;
    private static final int MOST_PATTERNS = 3000;
    private static final int MOST_PRICE = 1000000;
    private static final int MOST_SLOTS = 60;
    private static final int MOST_ROLLS = 1000;
    private static final int MOST_LINED = 8;
    private static final int MOST_LOTS = 8;
    private static final int MOST_METRES = 100000;
    private static final int MOST_STATES = 5000;
    private static final int MOST_TRIALS = 2000000;

    private final Mill mill = new Mill();
    private final Numbering numbering = new Numbering(mill);
    private final Orders orders = new Orders(mill);
    private final Slots slots = new Slots();
    private final Slots kept = new Slots();
    private final Slots draft = new Slots();
    private final Cuts latest = new Cuts();
    private final Cuts ahead = new Cuts();
    private final Cuts behind = new Cuts();
    private final Lining lining = new Lining();
    private final Search search = new Search(mill);
    private final Stock stock = new Stock();
    private final Ledger ledger = new Ledger();
    private boolean canUndo = false;
    private int pieceLength = 100;

    public ReelSlitter() {
    }

    // ---- the MILL, its WIDTHS and what is ORDERED

    public boolean mill(int w, int edge, int knives) {
        if (!within(w, LEAST_W, MOST_W) || !within(edge, 0, w / 4) || !within(knives, 1, MOST_KNIVES)) {
            return false;
        }
        if (mill.widest() > w) {
            return false;
        }
        mill.become(w, edge, knives);
        forgetPatterns();
        return true;
    }

    public boolean strip(int f, int g) {
        if (f < 0 || g < f || g > mill.w) {
            return false;
        }
        mill.f = f;
        mill.g = g;
        return true;
    }

    public int width(int w, int pieces) {
        if (!within(w, 1, mill.w) || !within(pieces, 0, MOST_ORDERED)) {
            return NONE;
        }
        if (mill.widths >= MOST_WIDTHS || mill.hasWidthOf(w)) {
            return NONE;
        }
        int i = mill.addWidth(w);
        orders.ordered[i] = pieces;
        forgetPatterns();
        return i;
    }

    public boolean order(int i, int pieces) {
        if (!mill.isWidth(i) || !within(pieces, 0, MOST_ORDERED)) {
            return false;
        }
        orders.ordered[i] = pieces;
        return true;
    }

    public boolean length(int metres) {
        if (!within(metres, 1, MOST_LENGTH) || orders.isAnyDone()) {
            return false;
        }
        pieceLength = metres;
        return true;
    }

    public int about(int i, int what) {
        if (!mill.isWidth(i)) {
            return NONE;
        }
        switch (what) {
            case 0: return mill.mm[i];
            case 1: return orders.ordered[i];
            case 2: return orders.done[i];
            case 3: return orders.wanted(i);
            case 4: return orders.prices[i];
            case 5: return slots.piecesOf(i);
            default: return NONE;
        }
    }

    // ---- PATTERNS and PRICES

    public int patterns() {
        return numbering.isOverfull() ? TOO_MANY : numbering.count();
    }

    public long pattern(int k, int i) {
        if (!numbering.isNumber(k)) {
            return NO_SUCH_COUNT;
        }
        int code = numbering.codeAt(k);
        if (mill.isWidth(i)) {
            return Counts.ofWidth(code, i);
        }
        switch (i) {
            case NONE: return mill.wasteOf(code);
            case ASK_WORTH: return orders.worthOf(code);
            case ASK_FLAWED: return mill.fitsFlawed(code) ? 1 : 0;
            default: return NO_SUCH_COUNT;
        }
    }

    public int find(int a, int b, int c, int d, int e, int f) {
        if (!areCounts(a, b, c) || !areCounts(d, e, f)) {
            return NONE;
        }
        int first = Counts.packed(0, a) | Counts.packed(1, b) | Counts.packed(2, c);
        int last = Counts.packed(3, d) | Counts.packed(4, e) | Counts.packed(5, f);
        return numbering.numberOf(first | last);
    }

    public boolean price(int i, int p) {
        if (i == NONE) {
            if (!within(p, 1, MOST_PRICE)) {
                return false;
            }
            orders.whole = p;
            return true;
        }
        if (!mill.isWidth(i) || !within(p, 0, MOST_PRICE)) {
            return false;
        }
        orders.prices[i] = p;
        return true;
    }

    public int best() {
        return numbering.isOverfull() ? NONE : worthiest();
    }

    public int bound() {
        if (numbering.isOverfull()) {
            return NONE;
        }
        int k = worthiest();
        if (k != NONE && orders.worthOf(numbering.codeAt(k)) > orders.whole) {
            return NONE;
        }
        return quotient(orders.worthOfWanted() + orders.whole - 1, orders.whole);
    }

    // ---- the PLAN

    public int greedy() {
        if (isWantedWithoutRoom()) {
            return NO_ROOM;
        }
        draft.clear();
        orders.startOpen();
        int rolls = 0;
        for (int n = 0; n < MOST_WIDTHS * MOST_ORDERED && orders.isAnyOpen(); n++) {
            if (!draft.addRoll(orders.takeGreedily())) {
                return NO_SLOT_LEFT;
            }
            rolls++;
        }
        slots.copyFrom(draft);
        return rolls;
    }

    public int fewest() {
        if (numbering.isOverfull() || !search.start(orders, numbering.count())) {
            return SPENT;
        }
        if (isWantedWithoutRoom()) {
            return NO_ROOM;
        }
        search.solve(numbering);
        int rolls = search.rollsLeft();
        if (!draftFewest(rolls)) {
            return NO_SLOT_LEFT;
        }
        slots.copyFrom(draft);
        return rolls;
    }

    public int slot(int k, int n) {
        if (!numbering.isNumber(k) || !within(n, 1, MOST_ROLLS) || slots.isFull()) {
            return NONE;
        }
        slots.add(numbering.codeAt(k), n);
        return slots.size - 1;
    }

    public boolean drop(int s) {
        if (s == NONE) {
            slots.clear();
            return true;
        }
        if (!slots.isSlot(s)) {
            return false;
        }
        slots.remove(s);
        return true;
    }

    public int slotted(int s, int what) {
        if (!slots.isSlot(s)) {
            return NONE;
        }
        int code = slots.codes[s];
        switch (what) {
            case 0: return slots.rolls[s];
            case 1: return mill.wasteOf(code);
            case 2: return movesTo(s);
            case 3: return Counts.pieces(code);
            default: return within(what, ASK_COUNTS, ASK_COUNTS + mill.widths - 1)
                    ? Counts.ofWidth(code, what - ASK_COUNTS) : NONE;
        }
    }

    public int plan(int what) {
        switch (what) {
            case 0: return slots.size;
            case 1: return slots.allRolls();
            case 2: return wasteOfAll();
            case 3: return movesOfAll();
            case 4: return piecesMissing();
            case 5: return piecesBeyond();
            default: return NONE;
        }
    }

    public int line() {
        if (slots.size > MOST_LINED) {
            return NONE;
        }
        lining.start(slots.size);
        for (int to = 0; to < slots.size; to++) {
            behind.lay(mill, slots.codes[to]);
            lining.setFromLatest(to, behind.movesFrom(latest));
            for (int from = 0; from < slots.size; from++) {
                ahead.lay(mill, slots.codes[from]);
                lining.setStep(from, to, behind.movesFrom(ahead));
            }
        }
        int moves = lining.solve();
        draft.copyFrom(slots);
        slots.clear();
        for (int p = 0; p < draft.size; p++) {
            int s = lining.slotAt(p);
            slots.add(draft.codes[s], draft.rolls[s]);
        }
        return moves;
    }

    public void keep() {
        kept.copyFrom(slots);
        canUndo = true;
    }

    public boolean undo() {
        if (!canUndo) {
            return false;
        }
        slots.copyFrom(kept);
        return true;
    }

    // ---- the STOCK

    public int lot(int metres, int rolls, boolean flawed) {
        if (!within(metres, 1, MOST_METRES) || !within(rolls, 0, MOST_ROLLS) || stock.isFull()) {
            return NONE;
        }
        stock.add(metres, rolls, flawed);
        return stock.size - 1;
    }

    public int lotted(int l, int what) {
        if (!stock.isLot(l)) {
            return NONE;
        }
        switch (what) {
            case 0: return stock.metres[l];
            case 1: return stock.rolls[l];
            case 2: return stock.flawed[l] ? 1 : 0;
            default: return NONE;
        }
    }

    public int cut(int s, int l, int t) {
        int refusal = refusalOfCut(s, l, t);
        if (refusal != 0) {
            return refusal;
        }
        int code = slots.codes[s];
        int metres = stock.metres[l];
        int sets = quotient(t, pieceLength);
        int back = stock.takeRoll(l, t, pieceLength);
        orders.addDone(code, sets);
        ledger.taken += (long) mill.w * metres;
        ledger.used += (long) pieceLength * sets * mill.spanOf(code);
        ledger.back += (long) mill.w * back;
        ledger.rolls++;
        ledger.sets += sets;
        behind.lay(mill, code);
        ledger.moves += behind.movesFrom(latest);
        latest.copyFrom(behind);
        slots.takeRoll(s);
        return 0;
    }

    public long area(int what) {
        switch (what) {
            case 0: return ledger.taken;
            case 1: return ledger.used;
            case 2: return ledger.back;
            case 3: return ledger.lost();
            case 4: return ledger.rolls;
            case 5: return ledger.sets;
            case 6: return ledger.moves;
            default: return NONE;
        }
    }

    public int share(int k, int v, int what) throws ArithmeticException {
        if (!numbering.isNumber(k) || !within(what, 0, 1)) {
            return NO_SUCH_SHARE;
        }
        if (v == 0) {
            throw new ArithmeticException("v is 0");
        }
        int span = mill.spanOf(numbering.codeAt(k));
        return what == 0 ? span / v : span % v;
    }

    // ---- what the calls share

    private static boolean within(int x, int low, int high) {
        return low <= x && x <= high;
    }

    /** The whole part of a / b; every b here is kept above 0 by the call that sets it, and tested all the same. */
    private static int quotient(int a, int b) {
        return b < 1 ? 0 : a / b;
    }

    private static boolean areCounts(int a, int b, int c) {
        return within(a, 0, MOST_KNIVES) && within(b, 0, MOST_KNIVES) && within(c, 0, MOST_KNIVES);
    }

    /** Other numbers of PATTERNS come: a PLAN, kept or not, was made for the old ones. */
    private void forgetPatterns() {
        numbering.forget();
        slots.clear();
        canUndo = false;
    }

    private int worthiest() {
        int found = NONE;
        int most = -1;
        int count = numbering.count();
        for (int k = 0; k < count; k++) {
            int worth = orders.worthOf(numbering.codeAt(k));
            if (worth > most) {
                most = worth;
                found = k;
            }
        }
        return found;
    }

    private boolean isWantedWithoutRoom() {
        for (int i = 0; i < mill.widths; i++) {
            if (orders.wanted(i) > 0 && mill.mm[i] > mill.room()) {
                return true;
            }
        }
        return false;
    }

    /** The search for the next roll goes on at the same number: what failed ahead of a roll fails behind it too. */
    private boolean draftFewest(int rolls) {
        draft.clear();
        int k = 0;
        for (int n = 0; n < rolls; n++) {
            k = search.firstFrom(k, numbering);
            int code = numbering.codeAt(k);
            if (!draft.addRoll(code)) {
                return false;
            }
            search.take(code);
        }
        return true;
    }

    private int movesTo(int s) {
        behind.lay(mill, slots.codes[s]);
        if (s == 0) {
            return behind.movesFrom(latest);
        }
        ahead.lay(mill, slots.codes[s - 1]);
        return behind.movesFrom(ahead);
    }

    private int movesOfAll() {
        int moves = 0;
        for (int s = 0; s < slots.size; s++) {
            moves += movesTo(s);
        }
        return moves;
    }

    private int wasteOfAll() {
        int waste = 0;
        for (int s = 0; s < slots.size; s++) {
            waste += slots.rolls[s] * mill.wasteOf(slots.codes[s]);
        }
        return waste;
    }

    private int piecesMissing() {
        int missing = 0;
        for (int i = 0; i < mill.widths; i++) {
            missing += Math.max(0, orders.wanted(i) - slots.piecesOf(i));
        }
        return missing;
    }

    private int piecesBeyond() {
        int beyond = 0;
        for (int i = 0; i < mill.widths; i++) {
            beyond += Math.max(0, slots.piecesOf(i) - orders.wanted(i));
        }
        return beyond;
    }

    private int refusalOfCut(int s, int l, int t) {
        if (!slots.isSlot(s)) {
            return 1;
        }
        if (!stock.isLot(l)) {
            return 2;
        }
        if (stock.rolls[l] < 1) {
            return 3;
        }
        if (!within(t, 1, stock.metres[l])) {
            return 4;
        }
        return stock.flawed[l] && !mill.fitsFlawed(slots.codes[s]) ? 5 : 0;
    }

    /**
     * COUNTS packed into one int, five bits a WIDTH (a COUNT is 20 at most), the first WIDTH topmost:
     * so the order of the PATTERNS' numbers is the falling order of these ints.
     */
    private static final class Counts {
        private static final int BITS = 5;
        private static final int MASK = 31;

        private Counts() {
        }

        static int packed(int i, int count) {
            return count << (BITS * (MOST_WIDTHS - 1 - i));
        }

        static int ofWidth(int code, int i) {
            return (code >>> (BITS * (MOST_WIDTHS - 1 - i))) & MASK;
        }

        static int pieces(int code) {
            int pieces = 0;
            for (int i = 0; i < MOST_WIDTHS; i++) {
                pieces += ofWidth(code, i);
            }
            return pieces;
        }
    }

    /** The MILL with its STRIP and its WIDTHS. */
    private static final class Mill {
        int w = 1000;
        int edge = 0;
        int knives = 10;
        int f = 0;
        int g = 0;
        int widths = 0;
        final int[] mm = new int[MOST_WIDTHS];
        final int[] greatestFirst = new int[MOST_WIDTHS];

        void become(int newW, int newEdge, int newKnives) {
            w = newW;
            edge = newEdge;
            knives = newKnives;
            f = 0;
            g = 0;
        }

        boolean isWidth(int i) {
            return i >= 0 && i < widths;
        }

        boolean hasWidthOf(int millimetres) {
            for (int i = 0; i < widths; i++) {
                if (mm[i] == millimetres) {
                    return true;
                }
            }
            return false;
        }

        int widest() {
            return widths == 0 ? 0 : mm[greatestFirst[0]];
        }

        /** The caller has seen that there is a place left. */
        int addWidth(int millimetres) {
            int i = widths;
            int place = i;
            while (place > 0 && mm[greatestFirst[place - 1]] < millimetres) {
                greatestFirst[place] = greatestFirst[place - 1];
                place--;
            }
            greatestFirst[place] = i;
            mm[i] = millimetres;
            widths++;
            return i;
        }

        int room() {
            return w - 2 * edge;
        }

        int spanOf(int code) {
            int span = 0;
            for (int i = 0; i < widths; i++) {
                span += Counts.ofWidth(code, i) * mm[i];
            }
            return span;
        }

        int wasteOf(int code) {
            return w - spanOf(code);
        }

        /** Asked only of PATTERNS that FIT. */
        boolean fitsFlawed(int code) {
            if (f >= g) {
                return true;
            }
            int left = Math.max(0, Math.min(f, w - edge) - edge);
            int right = Math.max(0, w - edge - Math.max(g, edge));
            return canPart(code, 0, left, right);
        }

        /** Whether the pieces from WIDTH i on can be parted; it goes a level deeper for each WIDTH, so at most 6. */
        private boolean canPart(int code, int i, int left, int right) {
            if (i >= widths) {
                return true;
            }
            int count = Counts.ofWidth(code, i);
            for (int n = 0; n <= count; n++) {
                int leftThen = left - n * mm[i];
                int rightThen = right - (count - n) * mm[i];
                if (leftThen >= 0 && rightThen >= 0 && canPart(code, i + 1, leftThen, rightThen)) {
                    return true;
                }
            }
            return false;
        }
    }

    /** The numbers of the PATTERNS that FIT; they are told anew only when one is asked for after a change. */
    private static final class Numbering {
        private final Mill mill;
        private final int[] codes = new int[MOST_PATTERNS];
        private int size = 0;
        private boolean overfull = false;
        private boolean stale = true;

        Numbering(Mill mill) {
            this.mill = mill;
        }

        void forget() {
            stale = true;
        }

        boolean isOverfull() {
            refresh();
            return overfull;
        }

        /** 0 if there are no numbers. */
        int count() {
            refresh();
            return size;
        }

        boolean isNumber(int k) {
            return k >= 0 && k < count();
        }

        /** Asked only behind isNumber or count, which bring the numbers up to date. */
        int codeAt(int k) {
            return k >= 0 && k < size ? codes[k] : 0;
        }

        int numberOf(int code) {
            int low = 0;
            int high = count();
            for (int n = 0; n < MOST_PATTERNS && low < high; n++) {
                int middle = (low + high) >>> 1;
                if (codes[middle] > code) {
                    low = middle + 1;
                } else {
                    high = middle;
                }
            }
            return isNumber(low) && codes[low] == code ? low : NONE;
        }

        private void refresh() {
            if (!stale) {
                return;
            }
            stale = false;
            size = 0;
            overfull = false;
            spread(0, 0, mill.room(), mill.knives);
            if (overfull) {
                size = 0;
            }
        }

        /** All COUNTS from WIDTH i on, more ahead of fewer; it goes a level deeper for each WIDTH, so at most 6. */
        private void spread(int i, int code, int room, int knives) {
            if (i >= mill.widths) {
                add(code);
                return;
            }
            int most = Math.min(knives, quotient(room, mill.mm[i]));
            for (int count = most; count >= 0 && !overfull; count--) {
                spread(i + 1, code | Counts.packed(i, count), room - count * mill.mm[i], knives - count);
            }
        }

        private void add(int code) {
            if (code == 0) {
                return;
            }
            if (size >= codes.length) {
                overfull = true;
            } else {
                codes[size] = code;
                size++;
            }
        }
    }

    /** What is ORDERED, DONE and priced of each WIDTH; OPEN is what GREEDY has not put into its PLAN yet. */
    private static final class Orders {
        private final Mill mill;
        private final int[] open = new int[MOST_WIDTHS];
        final int[] ordered = new int[MOST_WIDTHS];
        final int[] done = new int[MOST_WIDTHS];
        final int[] prices = new int[MOST_WIDTHS];
        int whole = 1;

        Orders(Mill mill) {
            this.mill = mill;
        }

        int wanted(int i) {
            return Math.max(0, ordered[i] - done[i]);
        }

        boolean isAnyDone() {
            for (int i = 0; i < mill.widths; i++) {
                if (done[i] > 0) {
                    return true;
                }
            }
            return false;
        }

        void addDone(int code, int sets) {
            for (int i = 0; i < mill.widths; i++) {
                done[i] += Counts.ofWidth(code, i) * sets;
            }
        }

        int worthOf(int code) {
            int worth = 0;
            for (int i = 0; i < mill.widths; i++) {
                worth += Counts.ofWidth(code, i) * prices[i];
            }
            return worth;
        }

        int worthOfWanted() {
            int worth = 0;
            for (int i = 0; i < mill.widths; i++) {
                worth += wanted(i) * prices[i];
            }
            return worth;
        }

        void startOpen() {
            for (int i = 0; i < mill.widths; i++) {
                open[i] = wanted(i);
            }
        }

        boolean isAnyOpen() {
            for (int i = 0; i < mill.widths; i++) {
                if (open[i] > 0) {
                    return true;
                }
            }
            return false;
        }

        /** The COUNTS of GREEDY's next roll; its pieces are no longer OPEN. */
        int takeGreedily() {
            int code = 0;
            int room = mill.room();
            int knives = mill.knives;
            for (int p = 0; p < mill.widths; p++) {
                int i = mill.greatestFirst[p];
                int count = Math.min(open[i], Math.min(knives, quotient(room, mill.mm[i])));
                open[i] -= count;
                room -= count * mill.mm[i];
                knives -= count;
                code |= Counts.packed(i, count);
            }
            return code;
        }
    }

    /** A PLAN. */
    private static final class Slots {
        int size = 0;
        final int[] codes = new int[MOST_SLOTS];
        final int[] rolls = new int[MOST_SLOTS];

        boolean isSlot(int s) {
            return s >= 0 && s < size;
        }

        boolean isFull() {
            return size >= MOST_SLOTS;
        }

        void clear() {
            size = 0;
        }

        void add(int code, int n) {
            if (!isFull()) {
                codes[size] = code;
                rolls[size] = n;
                size++;
            }
        }

        /** One roll more at the end; false if a 61st SLOT came. */
        boolean addRoll(int code) {
            if (size > 0 && codes[size - 1] == code) {
                rolls[size - 1]++;
                return true;
            }
            if (isFull()) {
                return false;
            }
            add(code, 1);
            return true;
        }

        void takeRoll(int s) {
            rolls[s]--;
            if (rolls[s] < 1) {
                remove(s);
            }
        }

        void remove(int s) {
            for (int later = s + 1; later < size; later++) {
                codes[later - 1] = codes[later];
                rolls[later - 1] = rolls[later];
            }
            size--;
        }

        void copyFrom(Slots other) {
            size = other.size;
            for (int s = 0; s < size; s++) {
                codes[s] = other.codes[s];
                rolls[s] = other.rolls[s];
            }
        }

        int allRolls() {
            int all = 0;
            for (int s = 0; s < size; s++) {
                all += rolls[s];
            }
            return all;
        }

        int piecesOf(int i) {
            int pieces = 0;
            for (int s = 0; s < size; s++) {
                pieces += rolls[s] * Counts.ofWidth(codes[s], i);
            }
            return pieces;
        }
    }

    /** The CUTS of a PATTERN, as millimetres that rise; none stand for nothing cut. */
    private static final class Cuts {
        private int size = 0;
        private final int[] places = new int[MOST_KNIVES + 1];

        void lay(Mill mill, int code) {
            size = 0;
            int place = mill.edge;
            add(place);
            for (int i = 0; i < mill.widths; i++) {
                int count = Counts.ofWidth(code, i);
                for (int n = 0; n < count; n++) {
                    place += mill.mm[i];
                    add(place);
                }
            }
        }

        private void add(int place) {
            if (size < places.length) {
                places[size] = place;
                size++;
            }
        }

        void copyFrom(Cuts other) {
            size = other.size;
            for (int n = 0; n < size; n++) {
                places[n] = other.places[n];
            }
        }

        int movesFrom(Cuts other) {
            int moves = 0;
            int o = 0;
            for (int n = 0; n < size; n++) {
                while (o < other.size && other.places[o] < places[n]) {
                    o++;
                }
                if (o >= other.size || other.places[o] != places[n]) {
                    moves++;
                }
            }
            return moves;
        }
    }

    /**
     * LINE, by sets of SLOTS that are behind: the least MOVES that are still to come depend only on
     * that set and on the SLOT cut last. Row 0 stands for LATEST, row s + 1 for SLOT s.
     */
    private static final class Lining {
        private static final int ROWS = MOST_LINED + 1;
        private static final int ABOVE_ALL_MOVES = MOST_LINED * (MOST_KNIVES + 1) + 1;
        private int size = 0;
        private final int[] steps = new int[ROWS * MOST_LINED];
        private final int[] least = new int[ROWS << MOST_LINED];
        private final int[] turns = new int[MOST_LINED];

        void start(int slots) {
            size = Math.min(slots, MOST_LINED);
        }

        void setFromLatest(int to, int moves) {
            steps[to] = moves;
        }

        void setStep(int from, int to, int moves) {
            steps[(from + 1) * MOST_LINED + to] = moves;
        }

        int slotAt(int p) {
            return turns[p];
        }

        int solve() {
            int all = (1 << size) - 1;
            for (int row = 0; row <= size; row++) {
                least[all * ROWS + row] = 0;
            }
            for (int set = all - 1; set > 0; set--) {
                for (int s = 0; s < size; s++) {
                    if (has(set, s)) {
                        least[set * ROWS + s + 1] = leastBehind(set, s + 1);
                    }
                }
            }
            if (size > 0) {
                least[0] = leastBehind(0, 0);
            }
            walk();
            return least[0];
        }

        private static boolean has(int set, int s) {
            return ((set >> s) & 1) == 1;
        }

        private int movesBy(int set, int row, int s) {
            return steps[row * MOST_LINED + s] + least[(set | (1 << s)) * ROWS + s + 1];
        }

        private int leastBehind(int set, int row) {
            int found = ABOVE_ALL_MOVES;
            for (int s = 0; s < size; s++) {
                if (!has(set, s)) {
                    found = Math.min(found, movesBy(set, row, s));
                }
            }
            return found;
        }

        /** The lowest SLOT that keeps the sum least, at each turn: that is the first of all such orders. */
        private void walk() {
            int set = 0;
            int row = 0;
            for (int p = 0; p < size; p++) {
                int s = lowestOf(set, row);
                turns[p] = s;
                set |= 1 << s;
                row = s + 1;
            }
        }

        private int lowestOf(int set, int row) {
            for (int s = 0; s < size; s++) {
                if (!has(set, s) && movesBy(set, row, s) == least[set * ROWS + row]) {
                    return s;
                }
            }
            return 0;
        }
    }

    /**
     * FEWEST: the least rolls for each state, that is for each number of pieces of each WIDTH still open,
     * from 0 up to what is WANTED. A state's index is the sum of its open pieces times their strides.
     */
    private static final class Search {
        private final Mill mill;
        private final int[] need = new int[MOST_WIDTHS];
        private final int[] strides = new int[MOST_WIDTHS];
        private final int[] open = new int[MOST_WIDTHS];
        private final int[] least = new int[MOST_STATES];
        private final int[] fullest = new int[MOST_PATTERNS];
        private int states = 1;
        private int index = 0;
        private int tries = 0;

        Search(Mill mill) {
            this.mill = mill;
        }

        /** False: SPENT. */
        boolean start(Orders orders, int patterns) {
            states = 1;
            for (int i = 0; i < mill.widths; i++) {
                need[i] = orders.wanted(i);
                strides[i] = states;
                states *= need[i] + 1;
                if (states > MOST_STATES) {
                    return false;
                }
            }
            return (long) states * patterns <= MOST_TRIALS;
        }

        /** Every WIDTH that is WANTED has room alone. Behind it, all that is WANTED is open. */
        void solve(Numbering numbering) {
            gatherFullest(numbering);
            for (int i = 0; i < mill.widths; i++) {
                open[i] = 0;
            }
            least[0] = 0;
            for (int n = 1; n < states; n++) {
                index = n;
                openOneMore();
                setLeastHere();
            }
            index = states - 1;
        }

        int rollsLeft() {
            return least[index];
        }

        void take(int code) {
            index = indexBehind(code);
            for (int i = 0; i < mill.widths; i++) {
                open[i] = Math.max(0, open[i] - Counts.ofWidth(code, i));
            }
        }

        /** The first PATTERN from k on with which one roll fewer is enough behind it. */
        int firstFrom(int k, Numbering numbering) {
            int count = numbering.count();
            for (int n = k; n < count; n++) {
                if (least[indexBehind(numbering.codeAt(n))] < least[index]) {
                    return n;
                }
            }
            return k;
        }

        /** More pieces never take more rolls, so only PATTERNS that hold no further WANTED piece need be tried. */
        private void gatherFullest(Numbering numbering) {
            tries = 0;
            int count = numbering.count();
            for (int k = 0; k < count; k++) {
                if (isFullest(numbering.codeAt(k)) && tries < fullest.length) {
                    fullest[tries] = numbering.codeAt(k);
                    tries++;
                }
            }
        }

        private boolean isFullest(int code) {
            int room = mill.room() - mill.spanOf(code);
            boolean hasKnife = Counts.pieces(code) < mill.knives;
            for (int i = 0; i < mill.widths; i++) {
                int count = Counts.ofWidth(code, i);
                if (count > need[i] || (count < need[i] && hasKnife && mill.mm[i] <= room)) {
                    return false;
                }
            }
            return true;
        }

        /** Goes from one state to the next by index. */
        private void openOneMore() {
            for (int i = 0; i < mill.widths; i++) {
                if (open[i] < need[i]) {
                    open[i]++;
                    return;
                }
                open[i] = 0;
            }
        }

        /**
         * One piece more takes no further roll or one: so it is enough to look for a PATTERN that saves that roll.
         * The dearer answer stands first, for a PATTERN without an open piece leads back to this very state.
         */
        private void setLeastHere() {
            int rolls = 0;
            for (int i = 0; i < mill.widths; i++) {
                if (open[i] > 0) {
                    rolls = Math.max(rolls, least[index - strides[i]]);
                }
            }
            least[index] = rolls + 1;
            for (int n = 0; n < tries; n++) {
                if (least[indexBehind(fullest[n])] < rolls) {
                    least[index] = rolls;
                    return;
                }
            }
        }

        private int indexBehind(int code) {
            int then = index;
            for (int i = 0; i < mill.widths; i++) {
                then -= Math.min(open[i], Counts.ofWidth(code, i)) * strides[i];
            }
            return then;
        }
    }

    /** The LOTS. */
    private static final class Stock {
        int size = 0;
        final int[] metres = new int[MOST_LOTS];
        final int[] rolls = new int[MOST_LOTS];
        final boolean[] flawed = new boolean[MOST_LOTS];

        boolean isLot(int l) {
            return l >= 0 && l < size;
        }

        boolean isFull() {
            return size >= MOST_LOTS;
        }

        void add(int length, int n, boolean isFlawed) {
            if (!isFull()) {
                metres[size] = length;
                rolls[size] = n;
                flawed[size] = isFlawed;
                size++;
            }
        }

        /** A roll of a LOT goes, t metres of it are cut: the metres of the LOT that came of the rest, 0 without one. */
        int takeRoll(int l, int t, int pieceLength) {
            rolls[l]--;
            int rest = metres[l] - t;
            if (rest < pieceLength || isFull()) {
                return 0;
            }
            add(rest, 1, flawed[l]);
            return rest;
        }
    }

    /** AREAS and counts of all rolls that were CUT. */
    private static final class Ledger {
        long taken = 0;
        long used = 0;
        long back = 0;
        long rolls = 0;
        long sets = 0;
        long moves = 0;

        long lost() {
            return taken - used - back;
        }
    }
}
