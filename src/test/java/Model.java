import java.math.BigInteger;
import java.util.ArrayList;
import java.util.Arrays;
import java.util.List;
import java.util.TreeSet;

/**
 * The document once more, as slowly and plainly as can be: degree by degree, unit by unit, and with a
 * whole copy of everything for each act. It is only for small numbers.
 */
final class Model {
    static final int NONE = -1;
    private static final long NEVER = 1000000000L;

    private static final class Piece {
        int upper;
        int lower;
        int flow;
    }

    private static final class Str {
        int kind;
        boolean hot;
        int work = NONE;
        int from;
        int to;
        int heat;
        int spans;
        List<Piece> pieces = new ArrayList<>();

        int level(int warmth, int gap) {
            return hot ? warmth - gap : warmth;
        }

        /** The warmth after so much heat from the hotter end, times the flow there; and that flow. */
        long[] warmthAt(long heatGone) {
            if (kind == 1) {
                return new long[] {from, 1};
            }
            long left = heatGone;
            List<Piece> down = new ArrayList<>(pieces);
            down.sort((a, b) -> b.upper - a.upper);
            for (Piece p : down) {
                long all = (long) (p.upper - p.lower) * p.flow;
                if (left <= all) {
                    return new long[] {(long) p.upper * p.flow - left, p.flow};
                }
                left -= all;
            }
            throw new IllegalStateException("beyond the stream's end");
        }
    }

    private static final class All {
        int gap = 10;
        List<Str> streams = new ArrayList<>();
        Object[] sheets = new Object[8];
        List<List<int[]>> nets = new ArrayList<>();
        TreeSet<Integer> forbidden = new TreeSet<>();

        All copied() {
            All a = new All();
            a.gap = gap;
            a.streams.addAll(streams);
            for (int i = 0; i < 8; i++) {
                a.sheets[i] = copyOf(sheets[i]);
            }
            for (List<int[]> net : nets) {
                a.nets.add(new ArrayList<>(net));
            }
            a.forbidden.addAll(forbidden);
            return a;
        }

        private static Object copyOf(Object row) {
            if (row instanceof byte[] b) {
                return b.clone();
            }
            if (row instanceof short[] s) {
                return s.clone();
            }
            return row instanceof int[] n ? n.clone() : null;
        }
    }

    private All now = new All();
    private final List<All> done = new ArrayList<>();
    private final List<All> undone = new ArrayList<>();
    private long[] found = null;
    private int asked = 0;

    Model() {
        for (int i = 0; i < 4; i++) {
            now.nets.add(new ArrayList<>());
        }
    }

    private void begin() {
        done.add(now);
        if (done.size() > 200) {
            done.remove(0);
        }
        undone.clear();
        now = now.copied();
    }

    private static boolean in(int v, int a, int b) {
        return a <= v && v <= b;
    }

    private static int size(Object row) {
        return row instanceof byte[] b ? b.length : row instanceof short[] s ? s.length : ((int[]) row).length;
    }

    private static int get(Object row, int i) {
        return row instanceof byte[] b ? b[i] : row instanceof short[] s ? s[i] : ((int[]) row)[i];
    }

    int sheet(int k, int form, int n) {
        if (!in(k, 0, 7) || !in(form, 0, 2)) {
            return 1;
        }
        if (!in(n, 0, 16)) {
            return 3;
        }
        begin();
        now.sheets[k] = form == 0 ? new byte[n] : form == 1 ? new short[n] : new int[n];
        return 0;
    }

    int cell(int k, int i, int v) {
        if (!in(k, 0, 7) || !in(i, 0, 15)) {
            return 1;
        }
        if (now.sheets[k] == null) {
            return 4;
        }
        if (i >= size(now.sheets[k])) {
            return 5;
        }
        begin();
        Object row = now.sheets[k];
        if (row instanceof byte[] b) {
            b[i] = (byte) v;
        } else if (row instanceof short[] s) {
            s[i] = (short) v;
        } else {
            ((int[]) row)[i] = v;
        }
        return 0;
    }

    int tear(int k) {
        if (!in(k, 0, 7)) {
            return 1;
        }
        begin();
        now.sheets[k] = null;
        return 0;
    }

    int copy(int k, int i, int other, int j, int n) {
        if (!in(k, 0, 7) || !in(other, 0, 7)) {
            return 1;
        }
        if (n < 0 || i < 0 || j < 0) {
            return 3;
        }
        if (now.sheets[k] == null || now.sheets[other] == null) {
            return 4;
        }
        if ((long) i + n > size(now.sheets[k]) || (long) j + n > size(now.sheets[other])) {
            return 5;
        }
        if (now.sheets[k].getClass() != now.sheets[other].getClass()) {
            return 6;
        }
        begin();
        System.arraycopy(now.sheets[k], i, now.sheets[other], j, n);
        return 0;
    }

    private static Piece piece(int a, int b, int flow) {
        Piece p = new Piece();
        p.upper = Math.max(a, b);
        p.lower = Math.min(a, b);
        p.flow = flow;
        return p;
    }

    int plain(int work, int from, int to, int flow) {
        if (!in(work, 0, 2)) {
            return 1;
        }
        if (now.streams.size() >= 12) {
            return 2;
        }
        if (!in(from, 0, 2000) || !in(to, 0, 2000) || from == to || !in(flow, 1, 1000)) {
            return 3;
        }
        begin();
        Str s = new Str();
        s.kind = 0;
        s.hot = from > to;
        s.work = work;
        s.from = from;
        s.to = to;
        s.heat = Math.abs(from - to) * flow;
        s.spans = 1;
        s.pieces.add(piece(from, to, flow));
        now.streams.add(s);
        return 0;
    }

    int still(int work, boolean hot, int warmth, int heat) {
        if (!in(work, 0, 2)) {
            return 1;
        }
        if (now.streams.size() >= 12) {
            return 2;
        }
        if (!in(warmth, 0, 2000) || !in(heat, 1, 1000000)) {
            return 3;
        }
        begin();
        Str s = new Str();
        s.kind = 1;
        s.hot = hot;
        s.work = work;
        s.from = warmth;
        s.to = warmth;
        s.heat = heat;
        now.streams.add(s);
        return 0;
    }

    int bent(int work, boolean hot, int from, int sheet, int spans) {
        if (!in(work, 0, 2) || !in(sheet, 0, 7)) {
            return 1;
        }
        if (now.streams.size() >= 12) {
            return 2;
        }
        if (!in(from, 0, 2000) || !in(spans, 1, 8)) {
            return 3;
        }
        Object row = now.sheets[sheet];
        if (row == null) {
            return 4;
        }
        Str s = new Str();
        s.kind = 2;
        s.hot = hot;
        s.work = work;
        s.from = from;
        s.to = from;
        s.spans = spans;
        for (int q = 0; q < spans; q++) {
            int before = s.to;
            if (2 * q < size(row)) {
                int degrees = get(row, 2 * q);
                s.to += hot ? -degrees : degrees;
                if (!in(degrees, 1, 500) || !in(s.to, 0, 2000)) {
                    return 3;
                }
            }
            if (2 * q + 1 < size(row)) {
                int flow = get(row, 2 * q + 1);
                if (!in(flow, 1, 1000)) {
                    return 3;
                }
                s.pieces.add(piece(before, s.to, flow));
                s.heat += Math.abs(before - s.to) * flow;
            }
        }
        if (s.pieces.size() < spans) {
            return 5;
        }
        begin();
        now.streams.add(s);
        return 0;
    }

    int bought(boolean heat, int warmth, int price) {
        if (now.streams.size() >= 12) {
            return 2;
        }
        if (!in(warmth, 0, 2000) || !in(price, 1, 1000)) {
            return 3;
        }
        begin();
        Str s = new Str();
        s.kind = heat ? 3 : 4;
        s.hot = heat;
        s.from = warmth;
        s.to = warmth;
        s.heat = price;
        now.streams.add(s);
        return 0;
    }

    int gap(int g) {
        if (!in(g, 1, 200)) {
            return 3;
        }
        begin();
        now.gap = g;
        return 0;
    }

    private boolean isStream(int i) {
        return in(i, 0, now.streams.size() - 1);
    }

    int forbid(int hot, int cold, boolean is) {
        if (!isStream(hot) || !isStream(cold)) {
            return 1;
        }
        if (!now.streams.get(hot).hot || now.streams.get(cold).hot) {
            return 6;
        }
        begin();
        if (is) {
            now.forbidden.add(100 * hot + cold);
        } else {
            now.forbidden.remove(100 * hot + cold);
        }
        return 0;
    }

    int meet(int net, int hot, int cold, int heat) {
        if (!in(net, 0, 3) || !isStream(hot) || !isStream(cold)) {
            return 1;
        }
        if (now.nets.get(net).size() >= 20) {
            return 2;
        }
        if (!in(heat, 1, 100000000)) {
            return 3;
        }
        Str h = now.streams.get(hot);
        Str c = now.streams.get(cold);
        if (h.kind > 2 || c.kind > 2 || !h.hot || c.hot) {
            return 6;
        }
        begin();
        now.nets.get(net).add(new int[] {hot, cold, heat});
        return 0;
    }

    int empty(int net) {
        if (!in(net, 0, 3)) {
            return 1;
        }
        begin();
        now.nets.get(net).clear();
        return 0;
    }

    int undo() {
        if (done.isEmpty()) {
            return 7;
        }
        undone.add(now);
        now = done.remove(done.size() - 1);
        return 0;
    }

    int redo() {
        if (undone.isEmpty()) {
            return 7;
        }
        done.add(now);
        now = undone.remove(undone.size() - 1);
        return 0;
    }

    int about(int stream, int what) {
        if (!isStream(stream)) {
            return NONE;
        }
        Str s = now.streams.get(stream);
        int[] all = {s.kind, s.hot ? 1 : 0, s.work, s.from, s.to, s.heat, s.spans};
        return in(what, 0, 6) ? all[what] : NONE;
    }

    int number(int sheet, int i) {
        if (!in(sheet, 0, 7) || now.sheets[sheet] == null || !in(i, 0, size(now.sheets[sheet]) - 1)) {
            return NONE;
        }
        return get(now.sheets[sheet], i);
    }

    // ---- lines, degree by degree ----

    private List<Str> of(int work) {
        List<Str> list = new ArrayList<>();
        for (Str s : now.streams) {
            if (s.kind <= 2 && (work == 3 || s.work == work)) {
                list.add(s);
            }
        }
        return list;
    }

    private static Str stillAt(int level, boolean hot, int heat, int gap) {
        Str s = new Str();
        s.kind = 1;
        s.hot = hot;
        s.from = hot ? level + gap : level;
        s.heat = heat;
        return s;
    }

    private List<Integer> levelsOf(List<Str> list) {
        TreeSet<Integer> set = new TreeSet<>();
        for (Str s : list) {
            set.add(s.level(s.from, now.gap));
            for (Piece p : s.pieces) {
                set.add(s.level(p.upper, now.gap));
                set.add(s.level(p.lower, now.gap));
            }
        }
        return new ArrayList<>(set.descendingSet());
    }

    private long heatAt(Str s, int degree) {
        for (Piece p : s.pieces) {
            if (s.level(p.lower, now.gap) <= degree && degree < s.level(p.upper, now.gap)) {
                return p.flow;
            }
        }
        return 0;
    }

    private long above(Str s, int level, boolean stillAtIt) {
        long sum = 0;
        if (s.kind == 1) {
            int own = s.level(s.from, now.gap);
            return own > level || own == level && stillAtIt ? s.heat : 0;
        }
        for (int d = Math.max(level, -300); d < 2000; d++) {
            sum += heatAt(s, d);
        }
        return sum;
    }

    /** What all above has together, with nothing bought. */
    private long net(List<Str> list, int level, boolean stillAtIt) {
        long sum = 0;
        for (Str s : list) {
            sum += s.hot ? above(s, level, stillAtIt) : -above(s, level, stillAtIt);
        }
        return sum;
    }

    private long leastOf(List<Str> list) {
        long least = 0;
        for (int level : levelsOf(list)) {
            least = Math.max(least, Math.max(-net(list, level, false), -net(list, level, true)));
        }
        return least;
    }

    private long coldOf(List<Str> list) {
        List<Integer> all = levelsOf(list);
        return all.isEmpty() ? 0 : net(list, all.get(all.size() - 1), true) + leastOf(list);
    }

    private List<Integer> pinches(List<Str> list) {
        List<Integer> all = levelsOf(list);
        List<Integer> some = new ArrayList<>();
        long least = leastOf(list);
        for (int i = 0; i < all.size(); i++) {
            boolean zero = net(list, all.get(i), false) + least == 0 || net(list, all.get(i), true) + least == 0;
            boolean not = i == 0 && least == 0 || i == all.size() - 1 && coldOf(list) == 0;
            if (zero && !not) {
                some.add(all.get(i));
            }
        }
        return some;
    }

    long least(int work) {
        return in(work, 0, 3) ? leastOf(of(work)) : NONE;
    }

    long cold(int work) {
        return in(work, 0, 3) ? coldOf(of(work)) : NONE;
    }

    private static int kth(List<Integer> list, int k) {
        return in(k, 0, list.size() - 1) ? list.get(k) : NONE;
    }

    int pinch(int work, int k) {
        return in(work, 0, 3) ? kth(pinches(of(work)), k) : NONE;
    }

    int level(int work, int k) {
        return in(work, 0, 3) ? kth(levelsOf(of(work)), k) : NONE;
    }

    int levels(int work) {
        return in(work, 0, 3) ? levelsOf(of(work)).size() : NONE;
    }

    long goesOn(int work, int k) {
        if (!in(work, 0, 3) || !in(k, 0, levels(work) - 1)) {
            return NONE;
        }
        return net(of(work), level(work, k), true) + least(work);
    }

    long line(int work, boolean hot, int level) {
        if (!in(work, 0, 3)) {
            return NONE;
        }
        long sum = 0;
        for (Str s : of(work)) {
            sum += s.hot == hot ? above(s, level, true) : 0;
        }
        return sum;
    }

    // ---- nets, unit by unit ----

    /** The verdict, the meeting that errs, heat, cold, then the least distances. */
    private long[] judged(int net) {
        List<int[]> meetings = now.nets.get(net);
        long[] used = new long[12];
        long[] all = new long[4 + meetings.size()];
        for (int m = 0; m < meetings.size(); m++) {
            int[] it = meetings.get(m);
            Str h = now.streams.get(it[0]);
            Str c = now.streams.get(it[1]);
            if (used[it[0]] + it[2] > h.heat || used[it[1]] + it[2] > c.heat) {
                return new long[] {1, m, NONE, NONE};
            }
            long closest = Long.MAX_VALUE;
            boolean tooClose = false;
            for (long x = 0; x <= it[2]; x++) {
                long[] a = h.warmthAt(used[it[0]] + x);
                long[] b = c.warmthAt(used[it[1]] + x);
                BigInteger over = BigInteger.valueOf(a[0]).multiply(BigInteger.valueOf(b[1]))
                        .subtract(BigInteger.valueOf(b[0]).multiply(BigInteger.valueOf(a[1])));
                BigInteger under = BigInteger.valueOf(a[1]).multiply(BigInteger.valueOf(b[1]));
                tooClose |= over.compareTo(under.multiply(BigInteger.valueOf(now.gap))) < 0;
                closest = Math.min(closest, over.multiply(BigInteger.valueOf(1000)).divide(under).longValue());
            }
            if (tooClose) {
                return new long[] {2, m, NONE, NONE};
            }
            used[it[0]] += it[2];
            used[it[1]] += it[2];
            all[4 + m] = closest;
        }
        all[1] = NONE;
        for (int i = 0; i < now.streams.size(); i++) {
            Str s = now.streams.get(i);
            if (s.kind <= 2) {
                all[s.hot ? 3 : 2] += s.heat - used[i];
            }
        }
        return all;
    }

    int verdict(int net) {
        if (!in(net, 0, 3)) {
            return NONE;
        }
        long[] all = judged(net);
        found = new long[] {all[1], all[2], all[3], now.nets.get(net).size()};
        return (int) all[0];
    }

    long finding(int what) {
        return found == null || !in(what, 0, 3) ? NONE : found[what];
    }

    int closest(int net, int k) {
        if (!in(net, 0, 3) || !in(k, 0, now.nets.get(net).size() - 1)) {
            return NONE;
        }
        long[] all = judged(net);
        return all[0] == 0 ? (int) all[4 + k] : NONE;
    }

    // ---- price, as a table of givers (each degree of each stream one) and takers ----

    private record Lot(int stream, int level, long heat) {
    }

    private List<Lot> lots(boolean hot) {
        List<Lot> lots = new ArrayList<>();
        for (int i = 0; i < now.streams.size(); i++) {
            Str s = now.streams.get(i);
            if (s.kind > 2 || s.hot != hot) {
                continue;
            }
            if (s.kind == 1) {
                lots.add(new Lot(i, 2 * s.level(s.from, now.gap), s.heat));
            }
            for (int d = -200; d < 2000; d++) {
                if (heatAt(s, d) > 0) {
                    // twice the middle of the degree, to stand between whole LEVELS
                    lots.add(new Lot(i, 2 * d + 1, heatAt(s, d)));
                }
            }
        }
        return lots;
    }

    private long cheapestBought(Lot lot, int kind) {
        long best = NEVER;
        for (int i = 0; i < now.streams.size(); i++) {
            Str s = now.streams.get(i);
            if (s.kind == kind) {
                int own = 2 * s.level(s.from, now.gap);
                boolean reaches = kind == 3 ? own >= lot.level : own <= lot.level;
                int pair = kind == 3 ? 100 * i + lot.stream : 100 * lot.stream + i;
                if (reaches && !now.forbidden.contains(pair)) {
                    best = Math.min(best, s.heat);
                }
            }
        }
        return best;
    }

    long price() {
        asked++;
        if (asked > 40) {
            return -2;
        }
        List<Lot> hots = lots(true);
        List<Lot> colds = lots(false);
        int h = hots.size();
        int c = colds.size();
        long[][] cost = new long[h + 1][c + 1];
        long[] have = new long[h + 1];
        long[] want = new long[c + 1];
        for (int i = 0; i < h; i++) {
            have[i] = hots.get(i).heat;
            want[c] += have[i];
            cost[i][c] = cheapestBought(hots.get(i), 4);
            for (int j = 0; j < c; j++) {
                boolean may = hots.get(i).level >= colds.get(j).level
                        && !now.forbidden.contains(100 * hots.get(i).stream + colds.get(j).stream);
                cost[i][j] = may ? 0 : NEVER;
            }
        }
        for (int j = 0; j < c; j++) {
            want[j] = colds.get(j).heat;
            have[h] += want[j];
            cost[h][j] = cheapestBought(colds.get(j), 3);
        }
        long sum = transport(cost, have, want);
        return sum >= NEVER ? NONE : sum;
    }

    /** Cheapest ways one at a time, found by going over the whole table until nothing gets cheaper. */
    private static long transport(long[][] cost, long[] have, long[] want) {
        int h = have.length;
        int c = want.length;
        long[][] sent = new long[h][c];
        long sum = 0;
        while (true) {
            long[] hotDist = new long[h];
            long[] coldDist = new long[c];
            int[] hotBy = new int[h];
            int[] coldBy = new int[c];
            Arrays.fill(coldDist, Long.MAX_VALUE / 2);
            for (int i = 0; i < h; i++) {
                hotDist[i] = have[i] > 0 ? 0 : Long.MAX_VALUE / 2;
                hotBy[i] = -1;
            }
            boolean better = true;
            while (better) {
                better = false;
                for (int i = 0; i < h; i++) {
                    for (int j = 0; j < c; j++) {
                        if (hotDist[i] + cost[i][j] < coldDist[j]) {
                            coldDist[j] = hotDist[i] + cost[i][j];
                            coldBy[j] = i;
                            better = true;
                        }
                        if (sent[i][j] > 0 && coldDist[j] - cost[i][j] < hotDist[i]) {
                            hotDist[i] = coldDist[j] - cost[i][j];
                            hotBy[i] = j;
                            better = true;
                        }
                    }
                }
            }
            int end = -1;
            for (int j = 0; j < c; j++) {
                if (want[j] > 0 && (end < 0 || coldDist[j] < coldDist[end])) {
                    end = j;
                }
            }
            if (end < 0) {
                return sum;
            }
            long most = want[end];
            int j = end;
            int i = coldBy[j];
            while (hotBy[i] >= 0) {
                most = Math.min(most, sent[i][hotBy[i]]);
                j = hotBy[i];
                i = coldBy[j];
            }
            most = Math.min(most, have[i]);
            have[i] -= most;
            want[end] -= most;
            j = end;
            i = coldBy[j];
            sent[i][j] += most;
            while (hotBy[i] >= 0) {
                sent[i][hotBy[i]] -= most;
                j = hotBy[i];
                i = coldBy[j];
                sent[i][j] += most;
            }
            sum += most * coldDist[end];
        }
    }

    // ---- fewest, by trying all ways to make heaps ----

    int fewest(int k, boolean below) {
        List<Str> list = of(3);
        List<Integer> pinches = pinches(list);
        List<Long> heats = new ArrayList<>();
        if (k == NONE && pinches.isEmpty()) {
            for (Str s : list) {
                heats.add(s.hot ? (long) s.heat : -s.heat);
            }
            heats.add(leastOf(list));
            heats.add(-coldOf(list));
        } else {
            if (!in(k, 0, pinches.size() - 1)) {
                return NONE;
            }
            int level = pinches.get(k);
            boolean comesNone = net(list, level, false) + leastOf(list) == 0;
            for (Str s : list) {
                long above = above(s, level, !comesNone);
                long it = below ? s.heat - above : above;
                heats.add(s.hot ? it : -it);
            }
            heats.add(below ? -coldOf(list) : leastOf(list));
        }
        heats.removeIf(x -> x == 0);
        return heats.size() - mostHeaps(heats);
    }

    private static int mostHeaps(List<Long> heats) {
        return heapsFrom(heats, 0, new ArrayList<>());
    }

    private static int heapsFrom(List<Long> heats, int at, List<Long> heaps) {
        if (at == heats.size()) {
            for (long heap : heaps) {
                if (heap != 0) {
                    return -1000;
                }
            }
            return heaps.size();
        }
        int best = -1000;
        for (int i = 0; i <= heaps.size(); i++) {
            List<Long> next = new ArrayList<>(heaps);
            if (i == heaps.size()) {
                next.add(heats.get(at));
            } else {
                next.set(i, next.get(i) + heats.get(at));
            }
            best = Math.max(best, heapsFrom(heats, at + 1, next));
        }
        return best;
    }

    long engine(int heat, int level, int work, int lower) {
        if (!in(heat, 1, 1000000) || !in(work, 0, heat) || !in(level, -200, 2000) || !in(lower, -200, 2000)
                || lower >= level) {
            return 0;
        }
        List<Str> list = of(3);
        long without = leastOf(list) + heat;
        list.add(stillAt(level, false, heat, now.gap));
        if (heat > work) {
            list.add(stillAt(lower, true, heat - work, now.gap));
        }
        return without - leastOf(list);
    }

    long carrier(int from, int to, int level) {
        if (!in(from, 0, 2) || !in(to, 0, 2) || from == to || !in(level, -200, 2000)) {
            return NONE;
        }
        int most = 0;
        while (true) {
            int q = most + 1;
            List<Str> first = of(from);
            first.add(stillAt(level, false, q, now.gap));
            List<Str> second = of(to);
            second.add(stillAt(level, true, q, now.gap));
            if (leastOf(first) > leastOf(of(from)) || leastOf(second) != leastOf(of(to)) - q) {
                return most;
            }
            most = q;
        }
    }

    int count(int what) {
        switch (what) {
            case 0:
                return now.streams.size();
            case 1:
                return now.gap;
            case 2:
                return done.size();
            case 3:
                return undone.size();
            case 4:
                return now.forbidden.size();
            default:
                return in(what, 5, 8) ? now.nets.get(what - 5).size() : NONE;
        }
    }
}
