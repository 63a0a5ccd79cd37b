import java.util.Random;

/** NETS of many MEETINGS that hold, grown by chance (always the same way), against the plain model. */
public final class NetModelTest {
    public static void main(String[] args) {
        int last = args.length > 0 ? Integer.parseInt(args[0]) : 120;
        int meetings = 0;
        for (int seed = 1; seed <= last; seed++) {
            meetings += grow(seed);
        }
        Check.holds("enough meetings that hold", meetings > 2 * last);
        Check.end();
    }

    private static int grow(int seed) {
        Random r = new Random(seed);
        HeatWorks x = new HeatWorks();
        Model m = new Model();
        String name = "seed " + seed + " ";
        int g = 1 + r.nextInt(15);
        Check.due(name + "gap", x.gap(g), m.gap(g));
        for (int i = 0; i < 6; i++) {
            newStream(r, x, m, i);
        }
        for (int n = 0; n < 40; n++) {
            int hot = r.nextInt(Math.max(1, m.count(0)));
            int cold = r.nextInt(Math.max(1, m.count(0)));
            int heat = 1 + r.nextInt(r.nextInt(4) == 0 ? 200 : 40);
            if (m.about(hot, 1) != 1 || m.about(cold, 1) != 0) {
                continue;
            }
            Check.due(name + "meet", x.meet(0, hot, cold, heat), m.meet(0, hot, cold, heat));
            int ruling = m.verdict(0);
            Check.due(name + "verdict", x.verdict(0), ruling);
            for (int what = 0; what < 4; what++) {
                Check.due(name + "finding " + what, x.finding(what), m.finding(what));
            }
            if (ruling != 0) {
                x.undo();
                m.undo();
            }
        }
        for (int k = 0; k <= m.count(5); k++) {
            Check.due(name + "closest " + k, x.closest(0, k), m.closest(0, k));
        }
        return m.count(5);
    }

    private static void newStream(Random r, HeatWorks x, Model m, int i) {
        boolean hot = i % 2 == 0;
        int low = hot ? 30 : 0;
        int way = r.nextInt(4);
        if (way == 0) {
            int warmth = low + r.nextInt(50);
            int heat = 1 + r.nextInt(200);
            Check.due("still", x.still(0, hot, warmth, heat), m.still(0, hot, warmth, heat));
        } else if (way == 1) {
            int a = low + r.nextInt(25);
            int b = a + 1 + r.nextInt(40);
            int flow = 1 + r.nextInt(9);
            Check.due("plain", x.plain(0, hot ? b : a, hot ? a : b, flow), m.plain(0, hot ? b : a, hot ? a : b, flow));
        } else {
            int spans = 1 + r.nextInt(8);
            Check.due("sheet", x.sheet(0, 2, 2 * spans), m.sheet(0, 2, 2 * spans));
            for (int q = 0; q < 2 * spans; q++) {
                int v = 1 + r.nextInt(q % 2 == 0 ? 1 + 40 / spans : 9);
                Check.due("cell", x.cell(0, q, v), m.cell(0, q, v));
            }
            int from = hot ? 60 + r.nextInt(30) : r.nextInt(20);
            Check.due("bent", x.bent(0, hot, from, 0, spans), m.bent(0, hot, from, 0, spans));
        }
    }
}
