import java.util.Arrays;

/**
 * A works in which streams that must be cooled warm those that must be warmed.
 *
 * Every act makes a new State that shares all it did not change with the one before it: undoing and
 * redoing is then a step to a State that is still there, whatever the act was.
 */
public final class HeatWorks {
    public static final int NONE = -1;

    private static final int STREAMS = 12;
    private static final int SHEETS = 8;
    private static final int WORKS = 3;
    private static final int ALL_WORKS = 3;
    private static final int NETS = 4;
    private static final int MEETINGS = 20;
    private static final int SPANS = 8;
    private static final int NUMBERS = 16;
    private static final int ACTS_KEPT = 200;
    private static final int RING = ACTS_KEPT + 1;
    private static final int PRICES_ASKED = 40;

    private static final int WARMEST = 2000;
    private static final int LOWEST_LEVEL = -200;
    private static final int MOST_GAP = 200;
    private static final int FIRST_GAP = 10;
    private static final int MOST_FLOW = 1000;
    private static final int MOST_DEGREES = 500;
    private static final int MOST_STILL_HEAT = 1000000;
    private static final int MOST_PRICE = 1000;
    private static final int MOST_MEETING_HEAT = 100000000;

    private static final int PLAIN = 0;
    private static final int STILL = 1;
    private static final int BENT = 2;
    private static final int BOUGHT_HEAT = 3;
    private static final int BOUGHT_COLD = 4;

    private static final int BYTES = 0;
    private static final int SHORTS = 1;
    private static final int INTS = 2;

    private static final int DONE = 0;
    private static final int NO_SUCH = 1;
    private static final int NO_ROOM = 2;
    private static final int NOT_AS_TOLD = 3;
    private static final int SHEET_MISSING = 4;
    private static final int SHEET_ENDS = 5;
    private static final int OTHER_KIND = 6;
    private static final int NOTHING_THERE = 7;

    private static final int TOO_OFTEN = -2;

    // The States that acts led to, in a ring: one more than acts kept, for the State ahead of them.
    private final State[] ring = new State[RING];
    private int base = 0;
    private int undoable = 0;
    private int redoable = 0;
    private final Cascade cascade = new Cascade();
    private final Judge judge = new Judge();
    // Their rows are large: made here, once for an object, they are used again by every call.
    private final Heaps heaps = new Heaps();
    private final Pricing pricing = new Pricing();
    private final long[] found = {NONE, NONE, NONE, NONE};
    private int pricesAsked = 0;

    public HeatWorks() {
        ring[0] = State.first();
    }

    // ---- acts ----

    public int sheet(int k, int form, int n) {
        if (!within(k, 0, SHEETS - 1) || !within(form, BYTES, INTS)) {
            return NO_SUCH;
        }
        if (!within(n, 0, NUMBERS)) {
            return NOT_AS_TOLD;
        }
        return act(now().withSheet(k, new Sheet(form, new int[n])));
    }

    public int cell(int k, int i, int v) {
        if (!within(k, 0, SHEETS - 1) || !within(i, 0, NUMBERS - 1)) {
            return NO_SUCH;
        }
        Sheet old = now().sheets[k];
        if (old == null) {
            return SHEET_MISSING;
        }
        if (i >= old.row.length) {
            return SHEET_ENDS;
        }
        return act(now().withSheet(k, old.withNumber(i, v)));
    }

    public int tear(int k) {
        if (!within(k, 0, SHEETS - 1)) {
            return NO_SUCH;
        }
        return act(now().withSheet(k, null));
    }

    public int copy(int k, int i, int other, int j, int n) {
        if (!within(k, 0, SHEETS - 1) || !within(other, 0, SHEETS - 1)) {
            return NO_SUCH;
        }
        if (n < 0 || i < 0 || j < 0) {
            return NOT_AS_TOLD;
        }
        Sheet source = now().sheets[k];
        Sheet target = now().sheets[other];
        if (source == null || target == null) {
            return SHEET_MISSING;
        }
        if ((long) i + n > source.row.length || (long) j + n > target.row.length) {
            return SHEET_ENDS;
        }
        if (source.form != target.form) {
            return OTHER_KIND;
        }
        return act(now().withSheet(other, target.withNumbersOf(source, i, j, n)));
    }

    public int plain(int work, int from, int to, int flow) {
        int status = newcomerStatus(within(work, 0, WORKS - 1));
        if (status != DONE) {
            return status;
        }
        if (!isWarmth(from) || !isWarmth(to) || from == to || !within(flow, 1, MOST_FLOW)) {
            return NOT_AS_TOLD;
        }
        int[] degrees = {Math.abs(from - to)};
        int[] flows = {flow};
        return come(new Stream(PLAIN, from > to, work, from, 0, degrees, flows));
    }

    public int still(int work, boolean hot, int warmth, int heat) {
        int status = newcomerStatus(within(work, 0, WORKS - 1));
        if (status != DONE) {
            return status;
        }
        if (!isWarmth(warmth) || !within(heat, 1, MOST_STILL_HEAT)) {
            return NOT_AS_TOLD;
        }
        return come(new Stream(STILL, hot, work, warmth, heat, new int[0], new int[0]));
    }

    public int bent(int work, boolean hot, int from, int sheet, int spans) {
        int status = newcomerStatus(within(work, 0, WORKS - 1) && within(sheet, 0, SHEETS - 1));
        if (status != DONE) {
            return status;
        }
        if (!isWarmth(from) || !within(spans, 1, SPANS)) {
            return NOT_AS_TOLD;
        }
        Sheet told = now().sheets[sheet];
        if (told == null) {
            return SHEET_MISSING;
        }
        // The numbers that are there come first: status 3 is less than status 5.
        if (!told.tellsSpans(hot, from, spans)) {
            return NOT_AS_TOLD;
        }
        if (2 * spans > told.row.length) {
            return SHEET_ENDS;
        }
        return come(new Stream(BENT, hot, work, from, 0, told.everySecond(0, spans), told.everySecond(1, spans)));
    }

    public int bought(boolean heat, int warmth, int price) {
        int status = newcomerStatus(true);
        if (status != DONE) {
            return status;
        }
        if (!isWarmth(warmth) || !within(price, 1, MOST_PRICE)) {
            return NOT_AS_TOLD;
        }
        int kind = heat ? BOUGHT_HEAT : BOUGHT_COLD;
        return come(new Stream(kind, heat, NONE, warmth, price, new int[0], new int[0]));
    }

    public int gap(int g) {
        if (!within(g, 1, MOST_GAP)) {
            return NOT_AS_TOLD;
        }
        return act(now().withGap(g));
    }

    public int forbid(int hot, int cold, boolean is) {
        Stream giver = now().streamAt(hot);
        Stream taker = now().streamAt(cold);
        if (giver == null || taker == null) {
            return NO_SUCH;
        }
        if (!giver.hot || taker.hot) {
            return OTHER_KIND;
        }
        return act(now().withForbidden(hot, cold, is));
    }

    public int meet(int net, int hot, int cold, int heat) {
        Stream giver = now().streamAt(hot);
        Stream taker = now().streamAt(cold);
        if (!within(net, 0, NETS - 1) || giver == null || taker == null) {
            return NO_SUCH;
        }
        if (now().nets[net].size >= MEETINGS) {
            return NO_ROOM;
        }
        if (!within(heat, 1, MOST_MEETING_HEAT)) {
            return NOT_AS_TOLD;
        }
        if (!giver.hot || taker.hot || giver.isBought() || taker.isBought()) {
            return OTHER_KIND;
        }
        return act(now().withNet(net, now().nets[net].withMeeting(hot, cold, heat)));
    }

    public int empty(int net) {
        if (!within(net, 0, NETS - 1)) {
            return NO_SUCH;
        }
        return act(now().withNet(net, new Net(0, new int[0], new int[0], new int[0])));
    }

    public int undo() {
        if (undoable == 0) {
            return NOTHING_THERE;
        }
        undoable--;
        redoable++;
        return DONE;
    }

    public int redo() {
        if (redoable == 0) {
            return NOTHING_THERE;
        }
        redoable--;
        undoable++;
        return DONE;
    }

    // ---- what is there ----

    public int about(int stream, int what) {
        Stream s = now().streamAt(stream);
        if (s == null) {
            return NONE;
        }
        switch (what) {
            case 0:
                return s.kind;
            case 1:
                return s.hot ? 1 : 0;
            case 2:
                return s.work;
            case 3:
                return s.from;
            case 4:
                return s.to;
            case 5:
                return s.amount;
            case 6:
                return s.degrees.length;
            default:
                return NONE;
        }
    }

    public int number(int sheet, int i) {
        if (!within(sheet, 0, SHEETS - 1)) {
            return NONE;
        }
        Sheet told = now().sheets[sheet];
        if (told == null || i < 0 || i >= told.row.length) {
            return NONE;
        }
        return told.row[i];
    }

    public int count(int what) {
        switch (what) {
            case 0:
                return now().size;
            case 1:
                return now().gap;
            case 2:
                return undoable;
            case 3:
                return redoable;
            case 4:
                return now().pairsForbidden();
            default:
                return within(what, 5, 4 + NETS) ? now().nets[what - 5].size : NONE;
        }
    }

    // ---- lines ----

    public long least(int work) {
        if (!isWorkOrAll(work)) {
            return NONE;
        }
        cascade.run(now(), work);
        return cascade.leastHeat;
    }

    public long cold(int work) {
        if (!isWorkOrAll(work)) {
            return NONE;
        }
        cascade.run(now(), work);
        return cascade.leastCold();
    }

    public int pinch(int work, int k) {
        if (!isWorkOrAll(work)) {
            return NONE;
        }
        cascade.run(now(), work);
        int at = cascade.placeOfPinch(k);
        return at == NONE ? NONE : cascade.levels.row[at];
    }

    public int level(int work, int k) {
        if (!isWorkOrAll(work)) {
            return NONE;
        }
        cascade.gather(now(), work);
        return cascade.levels.has(k) ? cascade.levels.row[k] : NONE;
    }

    public int levels(int work) {
        if (!isWorkOrAll(work)) {
            return NONE;
        }
        cascade.gather(now(), work);
        return cascade.levels.size;
    }

    public long goesOn(int work, int k) {
        if (!isWorkOrAll(work)) {
            return NONE;
        }
        cascade.run(now(), work);
        return cascade.levels.has(k) ? cascade.goes[k] : NONE;
    }

    public long line(int work, boolean hot, int level) {
        if (!isWorkOrAll(work)) {
            return NONE;
        }
        State now = now();
        long sum = 0;
        for (int i = 0; i < now.size; i++) {
            Stream s = now.streams[i];
            if (s.isOf(work) && s.hot == hot) {
                sum += s.heatAbove(now.gap, level, true);
            }
        }
        return sum;
    }

    // ---- nets ----

    public int verdict(int net) {
        if (!within(net, 0, NETS - 1)) {
            return NONE;
        }
        judge.hear(now(), now().nets[net]);
        found[0] = judge.errs;
        found[1] = judge.ruling == 0 ? judge.heatToBuy : NONE;
        found[2] = judge.ruling == 0 ? judge.coldToBuy : NONE;
        found[3] = now().nets[net].size;
        return judge.ruling;
    }

    public long finding(int what) {
        return within(what, 0, 3) ? found[what] : NONE;
    }

    public int closest(int net, int k) {
        if (!within(net, 0, NETS - 1) || !within(k, 0, now().nets[net].size - 1)) {
            return NONE;
        }
        judge.hear(now(), now().nets[net]);
        return judge.ruling == 0 ? judge.distances[k] : NONE;
    }

    // ---- prices, fewest, engines, carriers ----

    public long price() {
        if (pricesAsked >= PRICES_ASKED) {
            return TOO_OFTEN;
        }
        pricesAsked++;
        return pricing.leastSum(now());
    }

    public int fewest(int k, boolean below) {
        cascade.run(now(), ALL_WORKS);
        int at = cascade.placeOfPinch(k);
        boolean whole = k == NONE && cascade.placeOfPinch(0) == NONE;
        if (at == NONE && !whole) {
            return NONE;
        }
        heaps.clear();
        heapStreams(at, below);
        if (whole || !below) {
            heaps.add(cascade.leastHeat);
        }
        if (whole || below) {
            heaps.add(-cascade.leastCold());
        }
        return heaps.size - heaps.mostHeaps();
    }

    /** What streams have on a side of the PINCH at a place, or all that they have without a place. */
    private void heapStreams(int at, boolean below) {
        State now = now();
        for (int i = 0; i < now.size; i++) {
            Stream s = now.streams[i];
            if (!s.isBought()) {
                long heat = s.amount;
                if (cascade.levels.has(at)) {
                    boolean stillAbove = cascade.comes[at] != 0;
                    long above = s.heatAbove(now.gap, cascade.levels.row[at], stillAbove);
                    heat = below ? heat - above : above;
                }
                heaps.add(s.hot ? heat : -heat);
            }
        }
    }

    public long engine(int heat, int level, int work, int lower) {
        if (!within(heat, 1, MOST_STILL_HEAT) || !within(work, 0, heat)
                || !isLevel(level) || !isLevel(lower) || lower >= level) {
            return 0;
        }
        cascade.run(now(), ALL_WORKS);
        long without = cascade.leastHeat;
        cascade.gather(now(), ALL_WORKS);
        cascade.levels.add(level);
        cascade.levels.add(lower);
        cascade.fill(now(), ALL_WORKS);
        cascade.addStill(level, -heat);
        cascade.addStill(lower, heat - work);
        cascade.flow();
        return without + heat - cascade.leastHeat;
    }

    public long carrier(int from, int to, int level) {
        if (!within(from, 0, WORKS - 1) || !within(to, 0, WORKS - 1) || from == to || !isLevel(level)) {
            return NONE;
        }
        cascade.runWith(now(), from, level);
        long given = cascade.mostGiven(level);
        cascade.runWith(now(), to, level);
        return Math.min(given, cascade.mostTaken(level));
    }

    // ---- small helps ----

    private State now() {
        return ring[(base + undoable) % RING];
    }

    private int act(State next) {
        if (undoable < ACTS_KEPT) {
            undoable++;
        } else {
            base = (base + 1) % RING;
        }
        redoable = 0;
        ring[(base + undoable) % RING] = next;
        return DONE;
    }

    private int come(Stream s) {
        return act(now().withStream(s));
    }

    private int newcomerStatus(boolean placesExist) {
        if (!placesExist) {
            return NO_SUCH;
        }
        return now().size >= STREAMS ? NO_ROOM : DONE;
    }

    private static boolean within(int v, int low, int high) {
        return v >= low && v <= high;
    }

    private static boolean isWarmth(int v) {
        return within(v, 0, WARMEST);
    }

    private static boolean isLevel(int v) {
        return within(v, LOWEST_LEVEL, WARMEST);
    }

    private static boolean isWorkOrAll(int work) {
        return within(work, 0, ALL_WORKS);
    }

    /** A row of numbers; never changed once made, so that States may share it. */
    private static final class Sheet {
        final int form;
        final int[] row;

        Sheet(int form, int[] row) {
            this.form = form;
            this.row = row;
        }

        Sheet withNumber(int i, int v) {
            int[] next = row.clone();
            if (i >= 0 && i < next.length) {
                next[i] = narrowed(v);
            }
            return new Sheet(form, next);
        }

        /** The caller has seen that all these numbers are there. */
        Sheet withNumbersOf(Sheet source, int i, int j, int n) {
            int[] next = row.clone();
            for (int q = 0; q < n && i + q < source.row.length && j + q < next.length; q++) {
                next[j + q] = source.row[i + q];
            }
            return new Sheet(form, next);
        }

        private int narrowed(int v) {
            if (form == BYTES) {
                return (byte) v;
            }
            return form == SHORTS ? (short) v : v;
        }

        /** Whether the numbers of these SPANS that are there, and the warmths they lead to, are as told. */
        boolean tellsSpans(boolean hot, int from, int spans) {
            int warmth = from;
            for (int i = 0; i < 2 * spans && i < row.length; i++) {
                boolean isDegrees = i % 2 == 0;
                if (!within(row[i], 1, isDegrees ? MOST_DEGREES : MOST_FLOW)) {
                    return false;
                }
                if (isDegrees) {
                    warmth += hot ? -row[i] : row[i];
                }
                if (!isWarmth(warmth)) {
                    return false;
                }
            }
            return true;
        }

        int[] everySecond(int first, int n) {
            int[] part = new int[Math.max(n, 0)];
            for (int i = 0; i < part.length && first + 2 * i < row.length; i++) {
                part[i] = row[first + 2 * i];
            }
            return part;
        }
    }

    /** A stream of any KIND; never changed once made. Its SPANS stand from its hotter end on. */
    private static final class Stream {
        final int kind;
        final boolean hot;
        final int work;
        final int from;
        final int to;
        final int hotter;
        // the heat, or of BOUGHT ones the PRICE
        final int amount;
        final int[] degrees;
        final int[] flows;

        /** SPANS as told, from the begin on; the amount of a stream with SPANS is their heat. */
        Stream(int kind, boolean hot, int work, int from, int amount, int[] degrees, int[] flows) {
            int n = Math.min(degrees.length, flows.length);
            int[] down = new int[n];
            int[] flowsDown = new int[n];
            int far = 0;
            int sum = amount;
            for (int i = 0; i < n; i++) {
                int at = hot ? i : n - 1 - i;
                down[at] = degrees[i];
                flowsDown[at] = flows[i];
                far += degrees[i];
                sum += degrees[i] * flows[i];
            }
            this.kind = kind;
            this.hot = hot;
            this.work = work;
            this.from = from;
            this.to = hot ? from - far : from + far;
            this.hotter = hot ? from : from + far;
            this.amount = sum;
            this.degrees = down;
            this.flows = flowsDown;
        }

        boolean isBought() {
            return kind == BOUGHT_HEAT || kind == BOUGHT_COLD;
        }

        /** Of a WORK, or of all; BOUGHT ones count in no line. */
        boolean isOf(int which) {
            return !isBought() && (which == ALL_WORKS || which == work);
        }

        int topLevel(int gap) {
            return hot ? hotter - gap : hotter;
        }

        /** 0 where there is no such SPAN. */
        int flowOfSpan(int i) {
            return i >= 0 && i < flows.length ? flows[i] : 0;
        }

        long heatOfSpan(int i) {
            return i >= 0 && i < degrees.length ? (long) degrees[i] * flowOfSpan(i) : 0;
        }

        long heatAbove(int gap, int level, boolean stillAtItToo) {
            long top = topLevel(gap);
            if (degrees.length == 0) {
                return top > level || (stillAtItToo && top == level) ? amount : 0;
            }
            long sum = 0;
            for (int i = 0; i < degrees.length && top > level; i++) {
                long bottom = top - degrees[i];
                sum += flows[i] * (top - Math.max(bottom, level));
                top = bottom;
            }
            return sum;
        }

        /** The FLOW just below a LEVEL, 0 where there is none. */
        int flowBelow(int gap, int level) {
            int top = topLevel(gap);
            if (level > top) {
                return 0;
            }
            for (int i = 0; i < degrees.length; i++) {
                top -= degrees[i];
                if (level > top) {
                    return flows[i];
                }
            }
            return 0;
        }

        boolean standsAt(int gap, int level) {
            return degrees.length == 0 && topLevel(gap) == level;
        }
    }

    /** The MEETINGS of a NET in the order told; never changed once made. */
    private static final class Net {
        final int size;
        final int[] givers;
        final int[] takers;
        final int[] heats;

        Net(int size, int[] givers, int[] takers, int[] heats) {
            this.size = size;
            this.givers = givers;
            this.takers = takers;
            this.heats = heats;
        }

        Net withMeeting(int giver, int taker, int heat) {
            return new Net(size + 1, longer(givers, giver), longer(takers, taker), longer(heats, heat));
        }

        private static int[] longer(int[] row, int last) {
            int[] next = Arrays.copyOf(row, row.length + 1);
            next[next.length - 1] = last;
            return next;
        }
    }

    /** All that acts change; never changed once made. */
    private static final class State {
        final int gap;
        final int size;
        final Stream[] streams;
        final Sheet[] sheets;
        final Net[] nets;
        // bit c of row h: the pair of HOT h and COLD c
        final int[] forbidden;

        State(int gap, int size, Stream[] streams, Sheet[] sheets, Net[] nets, int[] forbidden) {
            this.gap = gap;
            this.size = size;
            this.streams = streams;
            this.sheets = sheets;
            this.nets = nets;
            this.forbidden = forbidden;
        }

        static State first() {
            Net[] nets = new Net[NETS];
            for (int i = 0; i < NETS; i++) {
                nets[i] = new Net(0, new int[0], new int[0], new int[0]);
            }
            return new State(FIRST_GAP, 0, new Stream[STREAMS], new Sheet[SHEETS], nets, new int[STREAMS]);
        }

        Stream streamAt(int i) {
            return i >= 0 && i < size ? streams[i] : null;
        }

        boolean isForbidden(int giver, int taker) {
            return giver >= 0 && giver < STREAMS && (forbidden[giver] >> taker & 1) == 1;
        }

        int pairsForbidden() {
            int sum = 0;
            for (int i = 0; i < STREAMS; i++) {
                sum += Integer.bitCount(forbidden[i]);
            }
            return sum;
        }

        State withGap(int g) {
            return new State(g, size, streams, sheets, nets, forbidden);
        }

        State withSheet(int k, Sheet s) {
            Sheet[] next = sheets.clone();
            if (k >= 0 && k < next.length) {
                next[k] = s;
            }
            return new State(gap, size, streams, next, nets, forbidden);
        }

        State withStream(Stream s) {
            if (size >= STREAMS) {
                return this;
            }
            Stream[] next = streams.clone();
            next[size] = s;
            return new State(gap, size + 1, next, sheets, nets, forbidden);
        }

        State withNet(int k, Net net) {
            Net[] next = nets.clone();
            if (k >= 0 && k < next.length) {
                next[k] = net;
            }
            return new State(gap, size, streams, sheets, next, forbidden);
        }

        State withForbidden(int giver, int taker, boolean is) {
            int[] next = forbidden.clone();
            if (giver >= 0 && giver < next.length) {
                next[giver] = is ? next[giver] | 1 << taker : next[giver] & ~(1 << taker);
            }
            return new State(gap, size, streams, sheets, nets, next);
        }
    }

    /** LEVELS, each once, the highest first. */
    private static final class Levels {
        // each stream has one more LEVEL than SPANS; an engine has two more
        static final int MOST = STREAMS * (SPANS + 1) + 2;

        final int[] row = new int[MOST];
        int size = 0;

        boolean has(int k) {
            return k >= 0 && k < size;
        }

        /** The first place at which no LEVEL above this one stands. */
        int placeFor(int level) {
            int at = 0;
            while (at < size && row[at] > level) {
                at++;
            }
            return at;
        }

        void add(int level) {
            int at = placeFor(level);
            if (size >= MOST || (at < size && row[at] == level)) {
                return;
            }
            for (int i = size; i > at; i--) {
                row[i] = row[i - 1];
            }
            row[at] = level;
            size++;
        }

        void addAllOf(Stream s, int gap) {
            int level = s.topLevel(gap);
            add(level);
            for (int i = 0; i < s.degrees.length; i++) {
                level -= s.degrees[i];
                add(level);
            }
        }

        /** Degrees from LEVEL k to the next one, 0 of the lowest. */
        int depth(int k) {
            return k >= 0 && k + 1 < size ? row[k] - row[k + 1] : 0;
        }
    }

    /** The heat that goes on from LEVEL to LEVEL; its rows are used again for every question. */
    private static final class Cascade {
        final Levels levels = new Levels();
        final long[] stills = new long[Levels.MOST];
        final long[] layers = new long[Levels.MOST];
        final long[] comes = new long[Levels.MOST];
        final long[] goes = new long[Levels.MOST];
        long leastHeat = 0;

        void run(State state, int work) {
            gather(state, work);
            fill(state, work);
            flow();
        }

        /** With one LEVEL more, at which nothing is: it changes no heat, but tells what comes there. */
        void runWith(State state, int work, int level) {
            gather(state, work);
            levels.add(level);
            fill(state, work);
            flow();
        }

        void gather(State state, int work) {
            levels.size = 0;
            for (int i = 0; i < state.size; i++) {
                if (state.streams[i].isOf(work)) {
                    levels.addAllOf(state.streams[i], state.gap);
                }
            }
        }

        void fill(State state, int work) {
            for (int k = 0; k < levels.size; k++) {
                stills[k] = 0;
                layers[k] = 0;
                for (int i = 0; i < state.size; i++) {
                    if (state.streams[i].isOf(work)) {
                        addStream(state.streams[i], state.gap, k);
                    }
                }
            }
        }

        private void addStream(Stream s, int gap, int k) {
            int sign = s.hot ? 1 : -1;
            if (s.standsAt(gap, levels.row[k])) {
                stills[k] += sign * s.amount;
            } else {
                layers[k] += (long) sign * s.flowBelow(gap, levels.row[k]) * levels.depth(k);
            }
        }

        void addStill(int level, int heat) {
            int at = levels.placeFor(level);
            if (levels.has(at)) {
                stills[at] += heat;
            }
        }

        void flow() {
            long sum = 0;
            long lowest = 0;
            for (int k = 0; k < levels.size; k++) {
                comes[k] = sum;
                sum += stills[k];
                goes[k] = sum;
                sum += layers[k];
                lowest = Math.min(lowest, Math.min(comes[k], goes[k]));
            }
            leastHeat = -lowest;
            for (int k = 0; k < levels.size; k++) {
                comes[k] += leastHeat;
                goes[k] += leastHeat;
            }
        }

        long leastCold() {
            return levels.size == 0 ? 0 : goes[levels.size - 1];
        }

        private boolean isPinch(int k) {
            if (comes[k] != 0 && goes[k] != 0) {
                return false;
            }
            boolean freeTop = k == 0 && leastHeat == 0;
            boolean freeBottom = k == levels.size - 1 && leastCold() == 0;
            return !freeTop && !freeBottom;
        }

        int placeOfPinch(int which) {
            int seen = 0;
            for (int k = 0; k < levels.size; k++) {
                if (isPinch(k)) {
                    if (seen == which) {
                        return k;
                    }
                    seen++;
                }
            }
            return NONE;
        }

        /** What a STILL COLD one at this LEVEL takes away is missing there and everywhere below. */
        long mostGiven(int level) {
            int at = levels.placeFor(level);
            if (!levels.has(at)) {
                return 0;
            }
            long most = goes[at];
            for (int k = at + 1; k < levels.size; k++) {
                most = Math.min(most, Math.min(comes[k], goes[k]));
            }
            return most;
        }

        /** What a STILL HOT one at this LEVEL saves is missing at the top and everywhere down to there. */
        long mostTaken(int level) {
            int at = levels.placeFor(level);
            if (!levels.has(at)) {
                return 0;
            }
            long most = comes[at];
            for (int k = 0; k < at; k++) {
                most = Math.min(most, Math.min(comes[k], goes[k]));
            }
            return most;
        }
    }

    /** A place in a stream, so much heat from its hotter end. */
    private static final class Place {
        private static final long NO_BEND = Long.MAX_VALUE;

        Stream stream = null;
        int span = 0;
        // at the hotter end of the SPAN
        int warmth = 0;
        // 0 in a STILL one
        int flow = 0;
        long goneInSpan = 0;

        void put(Stream s, long heat) {
            stream = s;
            span = 0;
            warmth = s.hotter;
            flow = s.flowOfSpan(0);
            goneInSpan = heat;
            for (int i = 1; i < s.degrees.length; i++) {
                stepOverBend();
            }
        }

        private void stepOverBend() {
            if (stream != null && span + 1 < stream.degrees.length && goneInSpan >= stream.heatOfSpan(span)) {
                goneInSpan -= stream.heatOfSpan(span);
                warmth -= stream.degrees[span];
                span++;
                flow = stream.flowOfSpan(span);
            }
        }

        long heatToBend() {
            return stream == null || flow == 0 ? NO_BEND : stream.heatOfSpan(span) - goneInSpan;
        }

        void move(long heat) {
            goneInSpan += heat;
            stepOverBend();
        }

        /** The warmth is over() / under(). */
        long over() {
            return flow == 0 ? warmth : (long) warmth * flow - goneInSpan;
        }

        long under() {
            return flow == 0 ? 1 : flow;
        }
    }

    /** Hears the MEETINGS of a NET in order. */
    private static final class Judge {
        // a MEETING has its two ends and the bends of two streams
        private static final int MOST_STEPS = 2 * SPANS + 2;

        final long[] used = new long[STREAMS];
        final int[] distances = new int[MEETINGS];
        final Place hotPlace = new Place();
        final Place coldPlace = new Place();
        int ruling = 0;
        int errs = NONE;
        long heatToBuy = 0;
        long coldToBuy = 0;

        void hear(State state, Net net) {
            ruling = 0;
            errs = NONE;
            Arrays.fill(used, 0L);
            for (int m = 0; m < net.size && m < MEETINGS && ruling == 0; m++) {
                ruling = hearMeeting(state, net, m);
                if (ruling != 0) {
                    errs = m;
                }
            }
            countLeft(state);
        }

        private int hearMeeting(State state, Net net, int m) {
            int giver = net.givers[m];
            int taker = net.takers[m];
            long heat = net.heats[m];
            Stream hot = state.streamAt(giver);
            Stream cold = state.streamAt(taker);
            if (hot == null || cold == null
                    || used[giver] + heat > hot.amount || used[taker] + heat > cold.amount) {
                return 1;
            }
            hotPlace.put(hot, used[giver]);
            coldPlace.put(cold, used[taker]);
            distances[m] = leastDistance(heat);
            used[giver] += heat;
            used[taker] += heat;
            return distances[m] < 1000 * state.gap ? 2 : 0;
        }

        /** Between bends both warmths fall evenly, so the least distance is at a bend or an end. */
        private int leastDistance(long heat) {
            long left = heat;
            int nearest = distance();
            for (int n = 0; n < MOST_STEPS && left > 0; n++) {
                long step = Math.min(left, Math.min(hotPlace.heatToBend(), coldPlace.heatToBend()));
                hotPlace.move(step);
                coldPlace.move(step);
                left -= step;
                nearest = Math.min(nearest, distance());
            }
            return nearest;
        }

        /** In thousandths, downwards: it is below a whole number of degrees just when the true one is. */
        private int distance() {
            long under = hotPlace.under() * coldPlace.under();
            long over = hotPlace.over() * coldPlace.under() - coldPlace.over() * hotPlace.under();
            return under == 0 ? 0 : (int) Math.floorDiv(1000 * over, under);
        }

        private void countLeft(State state) {
            heatToBuy = 0;
            coldToBuy = 0;
            for (int i = 0; i < state.size; i++) {
                Stream s = state.streams[i];
                if (!s.isBought()) {
                    long left = s.amount - used[i];
                    heatToBuy += s.hot ? 0 : left;
                    coldToBuy += s.hot ? left : 0;
                }
            }
        }
    }

    /** Parts the heats of streams (COLD ones below 0, all 0 together) into the most HEAPS. */
    private static final class Heaps {
        // all STREAMS, LEAST HEAT and LEAST COLD
        private static final int MOST = STREAMS + 2;
        private static final int PARTS = 1 << (MOST - 1);

        final long[] heats = new long[MOST];
        final long[] sums = new long[PARTS];
        final byte[] best = new byte[PARTS];
        int size = 0;

        void clear() {
            size = 0;
        }

        void add(long heat) {
            if (heat != 0 && size < MOST) {
                heats[size] = heat;
                size++;
            }
        }

        /** The last heat is in the HEAP that is left when the others are taken, so it is not tried. */
        int mostHeaps() {
            if (size == 0) {
                return 0;
            }
            int free = size - 1;
            int parts = 1 << free;
            sums[0] = 0;
            best[0] = 0;
            for (int part = 1; part < parts && part < PARTS; part++) {
                int lowest = part & -part;
                sums[part] = sums[part ^ lowest] + heats[Integer.numberOfTrailingZeros(part)];
                int most = bestWithoutOne(part, free);
                best[part] = (byte) (sums[part] == 0 ? most + 1 : most);
            }
            return best[parts - 1] + 1;
        }

        private int bestWithoutOne(int part, int free) {
            int most = 0;
            for (int i = 0; i < free; i++) {
                if ((part >> i & 1) == 1) {
                    most = Math.max(most, best[part ^ 1 << i]);
                }
            }
            return most;
        }
    }

    /**
     * The PRICE, as the cheapest flow. Givers have a node for each place at which they give, linked to
     * their next one below; takers a node for each place, linked to all that may give at or above it.
     * What is bought comes from one market of heat and goes to one market of cold; what the first
     * need not sell goes to the second for nothing, so that all flow is told ahead.
     */
    private static final class Pricing {
        private static final int SOURCE = 0;
        private static final int SINK = 1;
        private static final int HEAT_MARKET = 2;
        private static final int COLD_MARKET = 3;

        final Levels levels = new Levels();
        final Network network = new Network();
        final int[] latest = new int[STREAMS];
        int given = 0;
        int wanted = 0;

        long leastSum(State state) {
            begin(state);
            for (int k = 0; k < levels.size; k++) {
                addPlace(state, k, false);
                addPlace(state, k, true);
            }
            network.link(SOURCE, HEAT_MARKET, wanted, 0);
            network.link(HEAT_MARKET, COLD_MARKET, wanted, 0);
            network.link(COLD_MARKET, SINK, given, 0);
            return network.cheapest(SOURCE, SINK, given + wanted);
        }

        private void begin(State state) {
            network.clear(COLD_MARKET + 1);
            levels.size = 0;
            given = 0;
            wanted = 0;
            for (int i = 0; i < state.size; i++) {
                Stream s = state.streams[i];
                latest[i] = NONE;
                levels.addAllOf(s, state.gap);
                if (!s.isBought()) {
                    given += s.hot ? s.amount : 0;
                    wanted += s.hot ? 0 : s.amount;
                }
            }
        }

        /** A LEVEL itself, or the LAYER below it. */
        private void addPlace(State state, int k, boolean layer) {
            for (int i = 0; i < state.size; i++) {
                if (state.streams[i].hot) {
                    addGiver(state.streams[i], i, heatAt(state, i, k, layer));
                }
            }
            for (int i = 0; i < state.size; i++) {
                if (!state.streams[i].hot) {
                    addTaker(state, i, heatAt(state, i, k, layer));
                }
            }
        }

        private int heatAt(State state, int i, int k, boolean layer) {
            Stream s = state.streams[i];
            int level = levels.row[k];
            if (layer) {
                return s.flowBelow(state.gap, level) * levels.depth(k);
            }
            if (!s.standsAt(state.gap, level)) {
                return 0;
            }
            return s.isBought() ? given + wanted : s.amount;
        }

        private void addGiver(Stream s, int i, int heat) {
            if (heat == 0) {
                return;
            }
            int node = network.newNode();
            if (s.isBought()) {
                network.link(HEAT_MARKET, node, heat, s.amount);
            } else {
                network.link(SOURCE, node, heat, 0);
            }
            network.link(latest[i], node, given + wanted, 0);
            latest[i] = node;
        }

        private void addTaker(State state, int i, int heat) {
            if (heat == 0) {
                return;
            }
            Stream s = state.streams[i];
            int node = network.newNode();
            if (s.isBought()) {
                network.link(node, COLD_MARKET, heat, s.amount);
            } else {
                network.link(node, SINK, heat, 0);
            }
            for (int g = 0; g < state.size; g++) {
                boolean bothBought = s.isBought() && state.streams[g].isBought();
                if (state.streams[g].hot && !bothBought && !state.isForbidden(g, i)) {
                    network.link(latest[g], node, given + wanted, 0);
                }
            }
        }
    }

    /** Nodes and links with room and cost; link e ^ 1 is the way back of link e. */
    private static final class Network {
        // at most one place for each LEVEL of each stream, and four nodes more
        private static final int MOST_NODES = STREAMS * Levels.MOST + 4;
        // 6 givers, 6 takers at each place: 36 links across, 12 of givers, 6 of takers, both ways
        private static final int MOST_LINKS = 2 * (54 * Levels.MOST + 3);
        private static final int FAR = Integer.MAX_VALUE;
        // far above what the largest network needs: some thousands
        private static final int MOST_STEPS = 1000000;

        final int[] first = new int[MOST_NODES];
        final int[] to = new int[MOST_LINKS];
        final int[] next = new int[MOST_LINKS];
        final int[] room = new int[MOST_LINKS];
        final int[] cost = new int[MOST_LINKS];
        final int[] price = new int[MOST_NODES];
        final int[] queue = new int[MOST_NODES];
        final boolean[] seen = new boolean[MOST_NODES];
        final int[] turn = new int[MOST_NODES];
        final int[] path = new int[MOST_NODES];
        int nodes = 0;
        int links = 0;
        int queueBegin = 0;
        int queueSize = 0;

        void clear(int firstNodes) {
            nodes = 0;
            links = 0;
            for (int i = 0; i < firstNodes; i++) {
                newNode();
            }
        }

        int newNode() {
            if (nodes >= MOST_NODES) {
                return NONE;
            }
            first[nodes] = NONE;
            nodes++;
            return nodes - 1;
        }

        private boolean isNode(int n) {
            return n >= 0 && n < nodes;
        }

        void link(int from, int target, int most, int each) {
            if (isNode(from) && isNode(target) && links + 2 <= MOST_LINKS) {
                linkOneWay(from, target, most, each);
                linkOneWay(target, from, 0, -each);
            }
        }

        private void linkOneWay(int from, int target, int most, int each) {
            to[links] = target;
            room[links] = most;
            cost[links] = each;
            next[links] = first[from];
            first[from] = links;
            links++;
        }

        /** The least cost of so much flow, NONE if there is no room for it. */
        long cheapest(int source, int sink, int wanted) {
            long sum = 0;
            int left = wanted;
            int pushed = wanted;
            for (int n = 0; n < MOST_STEPS && left > 0 && pushed > 0; n++) {
                findPrices(source);
                pushed = price[sink] == FAR ? 0 : pushAll(source, sink);
                sum += (long) pushed * price[sink];
                left -= pushed;
            }
            return left > 0 ? NONE : sum;
        }

        /** The least cost from the source to each node, ways back included. */
        private void findPrices(int source) {
            for (int i = 0; i < nodes; i++) {
                price[i] = FAR;
                seen[i] = false;
            }
            price[source] = 0;
            queueBegin = 0;
            queueSize = 0;
            enqueue(source);
            for (int n = 0; n < MOST_STEPS && queueSize > 0; n++) {
                int at = queue[queueBegin];
                queueBegin = queueBegin + 1 < nodes ? queueBegin + 1 : 0;
                queueSize--;
                seen[at] = false;
                lowerPricesBehind(at);
            }
        }

        private void lowerPricesBehind(int at) {
            int e = first[at];
            for (int n = 0; n < links && e >= 0; n++) {
                int target = to[e];
                if (room[e] > 0 && price[at] + cost[e] < price[target]) {
                    price[target] = price[at] + cost[e];
                    enqueue(target);
                }
                e = next[e];
            }
        }

        /** No node stands in the queue twice, so it never has more than all nodes. */
        private void enqueue(int node) {
            if (!seen[node] && queueSize < nodes) {
                seen[node] = true;
                queue[(queueBegin + queueSize) % nodes] = node;
                queueSize++;
            }
        }

        /** All flow that can go at the prices found. */
        private int pushAll(int source, int sink) {
            int sum = 0;
            int pushed = 1;
            for (int n = 0; n < MOST_STEPS && pushed > 0; n++) {
                pushed = pushOnce(source, sink);
                sum += pushed;
            }
            return sum;
        }

        /**
         * Walks from the source, each link tried once. A node that seemed a dead end only since its way
         * led over nodes of the walk itself is found by the next call: pushAll asks until none is found.
         */
        private int pushOnce(int source, int sink) {
            for (int i = 0; i < nodes; i++) {
                turn[i] = first[i];
                seen[i] = false;
            }
            int sum = 0;
            int depth = 0;
            int at = source;
            seen[source] = true;
            for (int n = 0; n < MOST_STEPS; n++) {
                if (at == sink) {
                    sum += pushPath(depth);
                    depth = cutPath(depth);
                    at = to[path[depth] ^ 1];
                }
                int e = openLink(at);
                if (e >= 0) {
                    path[depth] = e;
                    depth++;
                    at = to[e];
                    seen[at] = true;
                } else if (depth > 0) {
                    depth--;
                    at = to[path[depth] ^ 1];
                } else {
                    break;
                }
            }
            return sum;
        }

        /** The next link of a node that has room, is on a cheapest way, and leads to a node not yet seen. */
        private int openLink(int at) {
            int e = turn[at];
            for (int n = 0; n < links && e >= 0 && !isOpen(at, e); n++) {
                e = next[e];
            }
            turn[at] = e;
            return e;
        }

        private boolean isOpen(int at, int e) {
            return room[e] > 0 && !seen[to[e]] && price[at] + cost[e] == price[to[e]];
        }

        private int pushPath(int depth) {
            int most = FAR;
            for (int i = 0; i < depth; i++) {
                most = Math.min(most, room[path[i]]);
            }
            for (int i = 0; i < depth; i++) {
                room[path[i]] -= most;
                room[path[i] ^ 1] += most;
            }
            return most;
        }

        /** Goes back to the first full link; nodes behind it may be come to again. */
        private int cutPath(int depth) {
            int kept = 0;
            while (kept < depth - 1 && room[path[kept]] > 0) {
                kept++;
            }
            for (int i = kept; i < depth; i++) {
                seen[to[path[i]]] = false;
            }
            return kept;
        }
    }
}
