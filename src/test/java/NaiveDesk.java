import java.util.ArrayList;
import java.util.Arrays;
import java.util.HashMap;
import java.util.HashSet;
import java.util.List;
import java.util.Map;
import java.util.Set;

/** The document once more, written the slow and literal way and with other means than the class: a measure for it. */
final class NaiveDesk {
    private record Slot(int[] counts, int rolls) { }

    private record Lot(int metres, int rolls, boolean flawed) { }

    private int w = 1000, edge = 0, knives = 10, f = 0, g = 0, length = 100, whole = 1;
    private final List<Integer> mm = new ArrayList<>();
    private final int[] ordered = new int[6], done = new int[6], prices = new int[6];
    private List<Slot> slots = new ArrayList<>();
    private List<Slot> kept = null;
    private boolean changedSince = false;
    private final List<Lot> lots = new ArrayList<>();
    private Set<Integer> latest = new HashSet<>();
    private long taken, used, back, lost, rollsCut, sets, moves;
    private List<int[]> table = null;

    boolean mill(int w, int edge, int knives) {
        if (w < 10 || w > 10000 || edge < 0 || edge > w / 4 || knives < 1 || knives > 20) return false;
        for (int m : mm) if (m > w) return false;
        this.w = w;
        this.edge = edge;
        this.knives = knives;
        f = 0;
        g = 0;
        slots.clear();
        changedSince = true;
        table = null;
        return true;
    }

    boolean strip(int f, int g) {
        if (!(0 <= f && f <= g && g <= w)) return false;
        this.f = f;
        this.g = g;
        return true;
    }

    int width(int width, int pieces) {
        if (width < 1 || width > w || pieces < 0 || pieces > 40 || mm.size() == 6 || mm.contains(width)) return -1;
        ordered[mm.size()] = pieces;
        mm.add(width);
        slots.clear();
        changedSince = true;
        table = null;
        return mm.size() - 1;
    }

    boolean order(int i, int pieces) {
        if (i < 0 || i >= mm.size() || pieces < 0 || pieces > 40) return false;
        ordered[i] = pieces;
        return true;
    }

    boolean length(int metres) {
        if (metres < 1 || metres > 10000 || Arrays.stream(done).sum() > 0) return false;
        length = metres;
        return true;
    }

    private int wanted(int i) {
        return ordered[i] > done[i] ? ordered[i] - done[i] : 0;
    }

    private int planned(int i) {
        return slots.stream().mapToInt(s -> s.counts[i] * s.rolls).sum();
    }

    int about(int i, int what) {
        if (i < 0 || i >= mm.size() || what < 0 || what > 5) return -1;
        return new int[] {mm.get(i), ordered[i], done[i], wanted(i), prices[i], planned(i)}[what];
    }

    private int pieces(int[] counts) {
        return Arrays.stream(counts).sum();
    }

    private int together(int[] counts) {
        int sum = 0;
        for (int i = 0; i < mm.size(); i++) sum += counts[i] * mm.get(i);
        return sum;
    }

    /** All PATTERNS that FIT, sorted; null if there are more than 3000. */
    private List<int[]> all() {
        if (table == null) {
            table = new ArrayList<>();
            gather(new int[6], mm.size() - 1);
            table.sort((a, b) -> {
                for (int i = 0; i < 6; i++) if (a[i] != b[i]) return b[i] - a[i];
                return 0;
            });
        }
        return table.size() > 3000 ? null : table;
    }

    private void gather(int[] counts, int i) {
        if (pieces(counts) > knives || together(counts) > w - 2 * edge || table.size() > 3000) return;
        if (i < 0) {
            if (pieces(counts) > 0) table.add(counts);
            return;
        }
        for (int n = 0; n <= knives; n++) {
            int[] more = counts.clone();
            more[i] = n;
            gather(more, i - 1);
        }
    }

    int patterns() {
        return all() == null ? -2 : all().size();
    }

    private boolean isPattern(int k) {
        return all() != null && k >= 0 && k < all().size();
    }

    private long worth(int[] counts) {
        long sum = 0;
        for (int i = 0; i < 6; i++) sum += (long) counts[i] * prices[i];
        return sum;
    }

    private boolean fitsFlawed(int[] counts) {
        if (f >= g) return true;
        int left = Math.max(0, Math.min(f, w - edge) - edge);
        int right = Math.max(0, w - edge - Math.max(g, edge));
        Set<Integer> sums = new HashSet<>(Set.of(0));
        for (int i = 0; i < mm.size(); i++) {
            for (int n = 0; n < counts[i]; n++) {
                Set<Integer> more = new HashSet<>(sums);
                for (int s : sums) more.add(s + mm.get(i));
                sums = more;
            }
        }
        for (int s : sums) if (s <= left && together(counts) - s <= right) return true;
        return false;
    }

    long pattern(int k, int i) {
        if (!isPattern(k) || i < -3 || i >= mm.size()) return -1000;
        int[] counts = all().get(k);
        if (i == -1) return w - together(counts);
        if (i == -2) return worth(counts);
        if (i == -3) return fitsFlawed(counts) ? 1 : 0;
        return counts[i];
    }

    int find(int a, int b, int c, int d, int e, int f) {
        if (all() == null) return -1;
        for (int k = 0; k < all().size(); k++) {
            if (Arrays.equals(all().get(k), new int[] {a, b, c, d, e, f})) return k;
        }
        return -1;
    }

    boolean price(int i, int p) {
        if (i == -1 && p >= 1 && p <= 1000000) {
            whole = p;
            return true;
        }
        if (i < 0 || i >= mm.size() || p < 0 || p > 1000000) return false;
        prices[i] = p;
        return true;
    }

    int best() {
        if (all() == null) return -1;
        int best = -1;
        for (int k = all().size() - 1; k >= 0; k--) {
            if (best == -1 || worth(all().get(k)) >= worth(all().get(best))) best = k;
        }
        return best;
    }

    int bound() {
        if (all() == null) return -1;
        for (int[] counts : all()) if (worth(counts) > whole) return -1;
        long sum = 0;
        for (int i = 0; i < mm.size(); i++) sum += (long) wanted(i) * prices[i];
        return (int) (sum % whole == 0 ? sum / whole : sum / whole + 1);
    }

    private boolean isStuck() {
        for (int i = 0; i < mm.size(); i++) if (wanted(i) > 0 && mm.get(i) > w - 2 * edge) return true;
        return false;
    }

    /** The number of rolls, or -3 with nothing done. */
    private int take(List<int[]> rolls) {
        List<Slot> plan = new ArrayList<>();
        for (int[] counts : rolls) {
            Slot last = plan.isEmpty() ? null : plan.get(plan.size() - 1);
            if (last != null && Arrays.equals(last.counts, counts)) {
                plan.set(plan.size() - 1, new Slot(counts, last.rolls + 1));
            } else {
                plan.add(new Slot(counts, 1));
            }
        }
        if (plan.size() > 60) return -3;
        slots = plan;
        return rolls.size();
    }

    int greedy() {
        if (isStuck()) return -2;
        List<Integer> turn = new ArrayList<>();
        for (int i = 0; i < mm.size(); i++) turn.add(i);
        turn.sort((a, b) -> mm.get(b) - mm.get(a));
        int[] open = new int[6];
        for (int i = 0; i < mm.size(); i++) open[i] = wanted(i);
        List<int[]> rolls = new ArrayList<>();
        while (pieces(open) > 0) {
            int[] counts = new int[6];
            for (int i : turn) {
                while (open[i] > 0 && pieces(counts) < knives && together(counts) + mm.get(i) <= w - 2 * edge) {
                    counts[i]++;
                    open[i]--;
                }
            }
            rolls.add(counts);
        }
        return take(rolls);
    }

    private static int[] less(int[] open, int[] counts) {
        int[] then = new int[6];
        for (int i = 0; i < 6; i++) then[i] = Math.max(0, open[i] - counts[i]);
        return then;
    }

    private int least(int[] open, Map<List<Integer>, Integer> known) {
        if (pieces(open) == 0) return 0;
        List<Integer> key = Arrays.stream(open).boxed().toList();
        Integer got = known.get(key);
        if (got != null) return got;
        int least = 1000000;
        for (int[] counts : all()) {
            int[] then = less(open, counts);
            if (!Arrays.equals(then, open)) least = Math.min(least, 1 + least(then, known));
        }
        known.put(key, least);
        return least;
    }

    int fewest() {
        if (all() == null) return -4;
        long product = 1;
        int[] open = new int[6];
        for (int i = 0; i < mm.size(); i++) {
            open[i] = wanted(i);
            product *= open[i] + 1;
        }
        if (product > 5000 || product * all().size() > 2000000) return -4;
        if (isStuck()) return -2;
        Map<List<Integer>, Integer> known = new HashMap<>();
        List<int[]> rolls = new ArrayList<>();
        while (pieces(open) > 0) {
            int now = least(open, known);
            for (int[] counts : all()) {
                if (least(less(open, counts), known) <= now - 1) {
                    rolls.add(counts);
                    open = less(open, counts);
                    break;
                }
            }
        }
        return take(rolls);
    }

    int slot(int k, int n) {
        if (!isPattern(k) || n < 1 || n > 1000 || slots.size() == 60) return -1;
        slots.add(new Slot(all().get(k), n));
        return slots.size() - 1;
    }

    boolean drop(int s) {
        if (s == -1) {
            slots.clear();
            return true;
        }
        if (s < 0 || s >= slots.size()) return false;
        slots.remove(s);
        return true;
    }

    private Set<Integer> cutsOf(int[] counts) {
        Set<Integer> cuts = new HashSet<>(Set.of(edge));
        int at = edge;
        for (int i = 0; i < mm.size(); i++) for (int n = 0; n < counts[i]; n++) cuts.add(at += mm.get(i));
        return cuts;
    }

    private int moves(Set<Integer> one, Set<Integer> other) {
        Set<Integer> fresh = new HashSet<>(other);
        fresh.removeAll(one);
        return fresh.size();
    }

    private int movesOf(List<Slot> order) {
        Set<Integer> one = latest;
        int sum = 0;
        for (Slot s : order) {
            sum += moves(one, cutsOf(s.counts));
            one = cutsOf(s.counts);
        }
        return sum;
    }

    int slotted(int s, int what) {
        if (s < 0 || s >= slots.size()) return -1;
        Slot slot = slots.get(s);
        if (what == 0) return slot.rolls;
        if (what == 1) return w - together(slot.counts);
        if (what == 2) return moves(s == 0 ? latest : cutsOf(slots.get(s - 1).counts), cutsOf(slot.counts));
        if (what == 3) return pieces(slot.counts);
        return what >= 10 && what < 10 + mm.size() ? slot.counts[what - 10] : -1;
    }

    int plan(int what) {
        int missing = 0, beyond = 0;
        for (int i = 0; i < mm.size(); i++) {
            int gap = wanted(i) - planned(i);
            if (gap > 0) missing += gap;
            if (gap < 0) beyond -= gap;
        }
        if (what == 0) return slots.size();
        if (what == 1) return slots.stream().mapToInt(s -> s.rolls).sum();
        if (what == 2) return slots.stream().mapToInt(s -> s.rolls * (w - together(s.counts))).sum();
        if (what == 3) return movesOf(slots);
        return what == 4 ? missing : what == 5 ? beyond : -1;
    }

    int line() {
        int n = slots.size();
        if (n > 8) return -1;
        int[][] step = new int[n + 1][n];
        for (int to = 0; to < n; to++) {
            step[n][to] = moves(latest, cutsOf(slots.get(to).counts));
            for (int from = 0; from < n; from++) {
                step[from][to] = moves(cutsOf(slots.get(from).counts), cutsOf(slots.get(to).counts));
            }
        }
        int[] first = new int[n];
        int least = permute(step, new int[n], 0, 0, Integer.MAX_VALUE, first);
        List<Slot> order = new ArrayList<>();
        for (int s : first) order.add(slots.get(s));
        slots = order;
        return least;
    }

    /** Tries all orders, the first one first; the least sum, whose first order is left in best. */
    private int permute(int[][] step, int[] order, int at, int sum, int least, int[] best) {
        int n = order.length;
        if (at == n) {
            if (sum < least) System.arraycopy(order, 0, best, 0, n);
            return Math.min(sum, least);
        }
        for (int s = 0; s < n; s++) {
            boolean isThere = false;
            for (int p = 0; p < at; p++) isThere |= order[p] == s;
            if (isThere) continue;
            order[at] = s;
            least = permute(step, order, at + 1, sum + step[at == 0 ? n : order[at - 1]][s], least, best);
        }
        return least;
    }

    int lot(int metres, int rolls, boolean flawed) {
        if (metres < 1 || metres > 100000 || rolls < 0 || rolls > 1000 || lots.size() == 8) return -1;
        lots.add(new Lot(metres, rolls, flawed));
        return lots.size() - 1;
    }

    int lotted(int l, int what) {
        if (l < 0 || l >= lots.size() || what < 0 || what > 2) return -1;
        Lot lot = lots.get(l);
        return new int[] {lot.metres, lot.rolls, lot.flawed ? 1 : 0}[what];
    }

    int cut(int s, int l, int t) {
        if (s < 0 || s >= slots.size()) return 1;
        if (l < 0 || l >= lots.size()) return 2;
        Lot lot = lots.get(l);
        Slot slot = slots.get(s);
        if (lot.rolls == 0) return 3;
        if (t < 1 || t > lot.metres) return 4;
        if (lot.flawed && !fitsFlawed(slot.counts)) return 5;
        int n = t / length;
        for (int i = 0; i < 6; i++) done[i] += slot.counts[i] * n;
        lots.set(l, new Lot(lot.metres, lot.rolls - 1, lot.flawed));
        int left = lot.metres - t;
        long came = 0;
        if (left >= length && lots.size() < 8) {
            lots.add(new Lot(left, 1, lot.flawed));
            came = left;
        }
        if (slot.rolls == 1) slots.remove(s);
        else slots.set(s, new Slot(slot.counts, slot.rolls - 1));
        long area = (long) length * n * together(slot.counts);
        taken += (long) w * lot.metres;
        used += area;
        back += w * came;
        lost += (long) w * lot.metres - area - w * came;
        rollsCut++;
        sets += n;
        moves += moves(latest, cutsOf(slot.counts));
        latest = cutsOf(slot.counts);
        return 0;
    }

    long area(int what) {
        return what < 0 || what > 6 ? -1 : new long[] {taken, used, back, lost, rollsCut, sets, moves}[what];
    }

    void keep() {
        kept = new ArrayList<>(slots);
        changedSince = false;
    }

    boolean undo() {
        if (kept == null || changedSince) return false;
        slots = new ArrayList<>(kept);
        return true;
    }

    int share(int k, int v, int what) {
        if (!isPattern(k) || what < 0 || what > 1) return -1000000;
        if (v == 0) throw new ArithmeticException();
        return what == 0 ? together(all().get(k)) / v : together(all().get(k)) % v;
    }
}
