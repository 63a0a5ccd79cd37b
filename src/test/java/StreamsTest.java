/** Promises 6 to 10 and 16: plain, still, bent, bought, gap, about. */
public final class StreamsTest {
    public static void main(String[] args) {
        plains();
        stills();
        bents();
        bentsRefused();
        boughts();
        gaps();
        noRoom();
        Check.end();
    }

    private static void about(HeatWorks x, int stream, int... want) {
        for (int what = 0; what < want.length; what++) {
            Check.due("about(" + stream + ", " + what + ")", x.about(stream, what), want[what]);
        }
        Check.due("about(" + stream + ", -1)", x.about(stream, -1), -1);
        Check.due("about(" + stream + ", 7)", x.about(stream, 7), -1);
    }

    private static void plains() {
        HeatWorks x = new HeatWorks();
        Check.due("plain(0, 100, 40, 3)", x.plain(0, 100, 40, 3), 0);
        Check.due("plain(2, 0, 2000, 1000)", x.plain(2, 0, 2000, 1000), 0);
        about(x, 0, 0, 1, 0, 100, 40, 180, 1);
        about(x, 1, 0, 0, 2, 0, 2000, 2000000, 1);
        Check.due("about(2, 0)", x.about(2, 0), -1);
        Check.due("about(-1, 0)", x.about(-1, 0), -1);
        Check.due("about(MAX, MAX)", x.about(Integer.MAX_VALUE, Integer.MAX_VALUE), -1);
        Check.due("work 3", x.plain(3, 100, 40, 3), 1);
        Check.due("work -1", x.plain(-1, 100, 40, 0), 1);
        Check.due("from is to", x.plain(0, 40, 40, 3), 3);
        Check.due("from 2001", x.plain(0, 2001, 40, 3), 3);
        Check.due("from -1", x.plain(0, -1, 40, 3), 3);
        Check.due("to 2001", x.plain(0, 100, 2001, 3), 3);
        Check.due("to -1", x.plain(0, 100, -1, 3), 3);
        Check.due("flow 0", x.plain(0, 100, 40, 0), 3);
        Check.due("flow 1001", x.plain(0, 100, 40, 1001), 3);
        Check.due("streams", x.count(0), 2);
    }

    private static void stills() {
        HeatWorks x = new HeatWorks();
        Check.due("still hot", x.still(1, true, 0, 1), 0);
        Check.due("still cold", x.still(0, false, 2000, 1000000), 0);
        about(x, 0, 1, 1, 1, 0, 0, 1, 0);
        about(x, 1, 1, 0, 0, 2000, 2000, 1000000, 0);
        Check.due("work 3", x.still(3, true, 0, 0), 1);
        Check.due("warmth -1", x.still(0, true, -1, 1), 3);
        Check.due("warmth 2001", x.still(0, true, 2001, 1), 3);
        Check.due("heat 0", x.still(0, true, 0, 0), 3);
        Check.due("heat 1000001", x.still(0, true, 0, 1000001), 3);
        Check.due("streams", x.count(0), 2);
    }

    static void row(HeatWorks x, int k, int... numbers) {
        x.sheet(k, 2, numbers.length);
        for (int i = 0; i < numbers.length; i++) {
            x.cell(k, i, numbers[i]);
        }
    }

    private static void bents() {
        HeatWorks x = new HeatWorks();
        row(x, 4, 10, 2, 500, 1000, 1, 1);
        Check.due("bent hot", x.bent(0, true, 600, 4, 2), 0);
        Check.due("bent cold", x.bent(2, false, 5, 4, 3), 0);
        Check.due("bent one span", x.bent(1, true, 10, 4, 1), 0);
        about(x, 0, 2, 1, 0, 600, 90, 500020, 2);
        about(x, 1, 2, 0, 2, 5, 516, 500021, 3);
        about(x, 2, 2, 1, 1, 10, 0, 20, 1);
        x.cell(4, 0, 77);
        x.tear(4);
        about(x, 0, 2, 1, 0, 600, 90, 500020, 2);
        x = new HeatWorks();
        row(x, 0, 250, 1, 250, 2, 250, 3, 250, 4, 250, 5, 250, 6, 250, 7, 250, 8);
        Check.due("eight spans", x.bent(0, true, 2000, 0, 8), 0);
        about(x, 0, 2, 1, 0, 2000, 0, 250 * 36, 8);
        x.sheet(1, 0, 2);
        x.cell(1, 0, 100);
        x.cell(1, 1, 100);
        Check.due("of bytes", x.bent(0, false, 0, 1, 1), 0);
        about(x, 1, 2, 0, 0, 0, 100, 10000, 1);
    }

    private static void bentsRefused() {
        HeatWorks x = new HeatWorks();
        row(x, 0, 10, 2, 20, 3, 30);
        Check.due("work", x.bent(3, true, 600, 0, 1), 1);
        Check.due("sheet 8", x.bent(0, true, 600, 8, 1), 1);
        Check.due("sheet -1", x.bent(0, true, 2001, -1, 1), 1);
        Check.due("from 2001", x.bent(0, true, 2001, 0, 1), 3);
        Check.due("from -1", x.bent(0, false, -1, 0, 1), 3);
        Check.due("no spans", x.bent(0, true, 600, 0, 0), 3);
        Check.due("nine spans", x.bent(0, true, 600, 0, 9), 3);
        Check.due("3 ahead of 4", x.bent(0, true, 600, 5, 9), 3);
        Check.due("missing", x.bent(0, true, 600, 5, 8), 4);
        Check.due("ends in a span", x.bent(0, true, 600, 0, 3), 5);
        Check.due("ends", x.bent(0, true, 600, 0, 8), 5);
        Check.due("warmth below 0", x.bent(0, true, 29, 0, 2), 3);
        Check.due("warmth 0", x.bent(0, true, 30, 0, 2), 0);
        Check.due("warmth above 2000", x.bent(0, false, 1971, 0, 2), 3);
        Check.due("warmth 2000", x.bent(0, false, 1970, 0, 2), 0);
        Check.due("3 of what is there ahead of 5", x.bent(0, true, 29, 0, 8), 3);
        Check.due("a warmth come to by half a span", x.bent(0, true, 59, 0, 3), 3);
        int[][] wrong = {{0, 0}, {0, 501}, {0, -1}, {1, 0}, {1, 1001}, {3, 0}, {2, 0}};
        for (int[] w : wrong) {
            x.cell(0, w[0], w[1]);
            Check.due("number " + w[0] + " is " + w[1], x.bent(0, true, 1000, 0, 2), 3);
            Check.due("number " + w[0] + " is " + w[1] + ", and it ends", x.bent(0, true, 1000, 0, 7), 3);
            x.undo();
        }
        x.cell(0, 4, 0);
        Check.due("a number that is not read", x.bent(0, true, 1000, 0, 2), 0);
        x.sheet(0, 2, 0);
        Check.due("an empty row", x.bent(0, true, 1000, 0, 1), 5);
        Check.due("streams", x.count(0), 3);
    }

    private static void boughts() {
        HeatWorks x = new HeatWorks();
        Check.due("bought heat", x.bought(true, 2000, 1), 0);
        Check.due("bought cold", x.bought(false, 0, 1000), 0);
        about(x, 0, 3, 1, -1, 2000, 2000, 1, 0);
        about(x, 1, 4, 0, -1, 0, 0, 1000, 0);
        Check.due("warmth -1", x.bought(true, -1, 1), 3);
        Check.due("warmth 2001", x.bought(true, 2001, 1), 3);
        Check.due("price 0", x.bought(false, 0, 0), 3);
        Check.due("price 1001", x.bought(false, 0, 1001), 3);
        Check.due("no levels of bought ones", x.levels(3), 0);
        Check.due("least", x.least(3), 0);
        Check.due("streams", x.count(0), 2);
    }

    private static void gaps() {
        HeatWorks x = new HeatWorks();
        x.still(0, true, 100, 5);
        Check.due("level", x.level(0, 0), 90);
        Check.due("gap(1)", x.gap(1), 0);
        Check.due("level", x.level(0, 0), 99);
        Check.due("gap(200)", x.gap(200), 0);
        Check.due("level", x.level(0, 0), -100);
        Check.due("gap(0)", x.gap(0), 3);
        Check.due("gap(201)", x.gap(201), 3);
        Check.due("gap(MIN)", x.gap(Integer.MIN_VALUE), 3);
        Check.due("count(1)", x.count(1), 200);
    }

    private static void noRoom() {
        HeatWorks x = new HeatWorks();
        row(x, 0, 1, 1);
        for (int i = 0; i < 12; i++) {
            Check.due("plain " + i, x.plain(0, 100, 40, 3), 0);
        }
        Check.due("plain 12", x.plain(0, 100, 40, 3), 2);
        Check.due("2 ahead of 3", x.plain(0, 40, 40, 3), 2);
        Check.due("1 ahead of 2", x.plain(3, 40, 40, 3), 1);
        Check.due("still 12", x.still(0, true, 40, 0), 2);
        Check.due("bent 12", x.bent(0, true, 40, 0, 1), 2);
        Check.due("bent 12, missing", x.bent(0, true, 40, 1, 1), 2);
        Check.due("bought 12", x.bought(true, 40, 0), 2);
        Check.due("streams", x.count(0), 12);
        x.undo();
        Check.due("room again", x.bought(true, 40, 1), 0);
    }
}
