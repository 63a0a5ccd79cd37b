import java.util.Random;

/** Runs of 512 calls by chance (always the same ones) on the class and on the plain model of the document. */
public final class ModelTest {
    private static final int CALLS = 512;
    private final HeatWorks works = new HeatWorks();
    private final Model model = new Model();
    private final Random random;
    private final String name;
    private final int top;
    private final int flowTop;
    private final int streamsWanted;
    private int calls = 0;

    private ModelTest(int seed) {
        random = new Random(seed);
        name = "seed " + seed + " ";
        top = seed % 3 == 0 ? 12 : seed % 3 == 1 ? 30 : 60;
        flowTop = seed % 2 == 0 ? 3 : 9;
        streamsWanted = 3 + seed % 6;
    }

    public static void main(String[] args) {
        int first = args.length > 0 ? Integer.parseInt(args[0]) : 1;
        int last = args.length > 1 ? Integer.parseInt(args[1]) : 80;
        for (int seed = first; seed <= last; seed++) {
            new ModelTest(seed).run();
        }
        Check.end();
    }

    private void run() {
        if (random.nextInt(4) > 0) {
            setUp();
        }
        while (calls < CALLS) {
            if (random.nextInt(100) < (model.count(0) < streamsWanted ? 60 : 35)) {
                act();
            } else {
                ask();
            }
        }
    }

    /** Streams of all kinds that are as told, so that the dearer questions have answers. */
    private void setUp() {
        int g = 1 + r(top / 6);
        due("gap", works.gap(g), model.gap(g));
        for (int k = 0; k < 3; k++) {
            due("sheet", works.sheet(k, k, 6), model.sheet(k, k, 6));
            for (int i = 0; i < 6; i++) {
                int v = 1 + r(i % 2 == 0 ? top / 5 : flowTop);
                due("cell", works.cell(k, i, v), model.cell(k, i, v));
            }
        }
        if (r(5) > 0) {
            due("bought", works.bought(true, top + 20, 5), model.bought(true, top + 20, 5));
            due("bought", works.bought(false, 0, 4), model.bought(false, 0, 4));
        }
        for (int i = 0; i < streamsWanted; i++) {
            newStream();
        }
        for (int i = r(4); i > 0; i--) {
            int hot = streamOf(1);
            int cold = streamOf(0);
            due("forbid", works.forbid(hot, cold, true), model.forbid(hot, cold, true));
        }
    }

    private int r(int n) {
        return random.nextInt(n);
    }

    /** A number from a to b, at times one just beyond, rarely an extreme one. */
    private int near(int a, int b) {
        int way = r(80);
        if (way == 0) {
            return a - 1;
        }
        if (way == 1) {
            return b + 1;
        }
        if (way == 2) {
            return r(2) == 0 ? Integer.MIN_VALUE : Integer.MAX_VALUE;
        }
        return a + r(b - a + 1);
    }

    private int warmth() {
        int way = r(60);
        return way == 0 ? 2001 : way == 1 ? -1 : 1 + r(top);
    }

    private int stream() {
        return near(0, Math.max(0, model.count(0) - 1));
    }

    private int streamOf(int hot) {
        for (int i = 0; i < 20; i++) {
            int s = stream();
            if (model.about(s, 1) == hot) {
                return s;
            }
        }
        return stream();
    }

    private int sheetIndex() {
        return near(0, 2);
    }

    private void due(String call, long got, long want) {
        calls++;
        Check.due(name + call, got, want);
    }

    private void act() {
        int way = r(100);
        boolean more = model.count(0) < streamsWanted || r(12) == 0;
        if (way < 8) {
            actOnSheet();
        } else if (way < 52) {
            if (more) {
                newStream();
            } else {
                meetOrForbid();
            }
        } else if (way < 56) {
            int g = near(1, top / 3);
            due("gap " + g, works.gap(g), model.gap(g));
        } else if (way < 80) {
            meetOrForbid();
        } else if (way < 82) {
            int net = near(0, 3);
            due("empty " + net, works.empty(net), model.empty(net));
        } else if (way < 92) {
            due("undo", works.undo(), model.undo());
        } else {
            due("redo", works.redo(), model.redo());
        }
    }

    private void actOnSheet() {
        int k = sheetIndex();
        int way = r(20);
        if (way < 3) {
            int form = near(0, 2);
            int n = r(3) == 0 ? near(0, 16) : 6;
            due("sheet", works.sheet(k, form, n), model.sheet(k, form, n));
        } else if (way < 15) {
            int i = r(4) == 0 ? near(0, 16) : r(6);
            int v = r(30) == 0 ? random.nextInt() : 1 + r(Math.max(2, top / 6));
            due("cell", works.cell(k, i, v), model.cell(k, i, v));
        } else if (way < 16) {
            due("tear", works.tear(k), model.tear(k));
        } else {
            int i = near(0, 4);
            int other = sheetIndex();
            int j = near(0, 4);
            int n = near(0, 4);
            due("copy", works.copy(k, i, other, j, n), model.copy(k, i, other, j, n));
        }
    }

    private void newStream() {
        int work = near(0, r(2) + 1);
        int way = r(10);
        if (way < 4) {
            int from = warmth();
            int to = warmth();
            int flow = near(1, flowTop);
            due("plain", works.plain(work, from, to, flow), model.plain(work, from, to, flow));
        } else if (way < 6) {
            boolean hot = r(2) == 0;
            int warmth = warmth();
            int heat = near(1, top);
            due("still", works.still(work, hot, warmth, heat), model.still(work, hot, warmth, heat));
        } else if (way < 8) {
            boolean hot = r(2) == 0;
            int from = r(8) == 0 ? warmth() : hot ? top - r(3) : r(3);
            int sheet = sheetIndex();
            int spans = near(1, 3);
            due("bent " + hot + " " + from + " " + sheet + " " + spans,
                    works.bent(work, hot, from, sheet, spans), model.bent(work, hot, from, sheet, spans));
        } else {
            boolean heat = r(2) == 0;
            int warmth = r(3) == 0 ? warmth() : heat ? top + 15 - r(10) : r(5);
            int price = near(1, 9);
            due("bought", works.bought(heat, warmth, price), model.bought(heat, warmth, price));
        }
    }

    private void meetOrForbid() {
        int hot = streamOf(1);
        int cold = streamOf(0);
        if (r(6) == 0) {
            boolean is = r(8) == 0;
            due("forbid", works.forbid(hot, cold, is), model.forbid(hot, cold, is));
        } else {
            int net = near(0, 3);
            int heat = near(1, 1 + r(top));
            due("meet", works.meet(net, hot, cold, heat), model.meet(net, hot, cold, heat));
        }
    }

    private void ask() {
        int work = near(0, 3);
        int k = near(0, 5);
        switch (r(16)) {
            case 0:
                int what = near(0, 6);
                int s = stream();
                due("about " + s + " " + what, works.about(s, what), model.about(s, what));
                break;
            case 1:
                int sheet = sheetIndex();
                due("number", works.number(sheet, k), model.number(sheet, k));
                break;
            case 2:
                due("least " + work, works.least(work), model.least(work));
                break;
            case 3:
                due("cold " + work, works.cold(work), model.cold(work));
                break;
            case 4:
                int p = near(0, 2);
                due("pinch " + work + " " + p, works.pinch(work, p), model.pinch(work, p));
                break;
            case 5:
                due("level " + work + " " + k, works.level(work, k), model.level(work, k));
                break;
            case 6:
                due("levels " + work, works.levels(work), model.levels(work));
                break;
            case 7:
                due("goesOn " + work + " " + k, works.goesOn(work, k), model.goesOn(work, k));
                break;
            case 8:
                boolean hot = r(2) == 0;
                int level = near(-10, top);
                due("line " + work + " " + level, works.line(work, hot, level), model.line(work, hot, level));
                break;
            case 9:
                int net = near(0, 3);
                due("verdict " + net, works.verdict(net), model.verdict(net));
                break;
            case 10:
                int f = near(0, 3);
                due("finding " + f, works.finding(f), model.finding(f));
                break;
            case 11:
                int of = near(0, 3);
                int m = near(0, 3);
                due("closest " + of + " " + m, works.closest(of, m), model.closest(of, m));
                break;
            case 12:
                due("price", works.price(), model.price());
                break;
            case 13:
                int q = r(3) - 1;
                boolean below = r(2) == 0;
                due("fewest " + q + " " + below, works.fewest(q, below), model.fewest(q, below));
                break;
            case 14:
                askEngineOrCarrier();
                break;
            default:
                int c = near(0, 8);
                due("count " + c, works.count(c), model.count(c));
                break;
        }
    }

    private void askEngineOrCarrier() {
        int level = near(-10, top);
        if (r(2) == 0) {
            int heat = near(1, top * 2);
            int work = near(0, Math.max(1, heat / 3));
            int lower = near(-10, top);
            due("engine", works.engine(heat, level, work, lower), model.engine(heat, level, work, lower));
        } else {
            int from = near(0, 1);
            int to = r(4) == 0 ? near(0, 2) : 1 - from;
            due("carrier " + from + " " + to + " " + level, works.carrier(from, to, level),
                    model.carrier(from, to, level));
        }
    }
}
