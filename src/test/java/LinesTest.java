/** Promises 18 to 24: least, cold, pinch, level, levels, goesOn, line. */
public final class LinesTest {
    private static final int MIN = Integer.MIN_VALUE;
    private static final int MAX = Integer.MAX_VALUE;

    /** Four streams whose pinch is well known, two of WORK 0 and two of WORK 1. */
    static HeatWorks four() {
        HeatWorks x = new HeatWorks();
        x.plain(0, 170, 60, 30);
        x.plain(0, 20, 135, 20);
        x.plain(1, 150, 30, 15);
        x.plain(1, 80, 140, 40);
        return x;
    }

    public static void main(String[] args) {
        all();
        eachWork();
        noWork();
        lines();
        stills();
        pinchAtEnds();
        bends();
        lowLevels();
        large();
        mostLevels();
        Check.end();
    }

    /** Six HOT and six COLD streams of eight SPANS: each HOT one falls beside a COLD one, a degree above it. */
    static HeatWorks full() {
        HeatWorks x = new HeatWorks();
        StreamsTest.row(x, 0, 50, 1, 60, 2, 70, 3, 80, 4, 90, 5, 100, 6, 110, 7, 120, 8);
        StreamsTest.row(x, 1, 120, 8, 110, 7, 100, 6, 90, 5, 80, 4, 70, 3, 60, 2, 50, 1);
        for (int i = 0; i < 6; i++) {
            x.bent(i % 3, false, 100 + 2 * i, 0, 8);
            x.bent(i % 3, true, 791 + 2 * i, 1, 8);
        }
        return x;
    }

    private static void mostLevels() {
        HeatWorks x = full();
        Check.due("levels", x.levels(3), 108);
        Check.due("highest", x.level(3, 0), 791);
        Check.due("lowest", x.level(3, 107), 100);
        bothLeast(x, 3, 0, 0);
        x.gap(12);
        Check.due("levels", x.levels(3), 108);
        bothLeast(x, 3, 6 * 8, 6 * 8);
    }

    private static void look(HeatWorks x, int work, int[] levels, long[] goes) {
        Check.due("levels(" + work + ")", x.levels(work), levels.length);
        for (int k = 0; k < levels.length; k++) {
            Check.due("level(" + work + ", " + k + ")", x.level(work, k), levels[k]);
            Check.due("goesOn(" + work + ", " + k + ")", x.goesOn(work, k), goes[k]);
        }
        int[] beyond = {-1, levels.length, MIN, MAX};
        for (int k : beyond) {
            Check.due("level(" + work + ", " + k + ")", x.level(work, k), -1);
            Check.due("goesOn(" + work + ", " + k + ")", x.goesOn(work, k), -1);
        }
    }

    private static void pinches(HeatWorks x, int work, int... want) {
        for (int k = 0; k < want.length; k++) {
            Check.due("pinch(" + work + ", " + k + ")", x.pinch(work, k), want[k]);
        }
        Check.due("one pinch more", x.pinch(work, want.length), -1);
        Check.due("pinch -1", x.pinch(work, -1), -1);
    }

    private static void bothLeast(HeatWorks x, int work, long heat, long cold) {
        Check.due("least(" + work + ")", x.least(work), heat);
        Check.due("cold(" + work + ")", x.cold(work), cold);
    }

    private static void all() {
        HeatWorks x = four();
        bothLeast(x, 3, 200, 600);
        look(x, 3, new int[] {160, 140, 135, 80, 50, 20}, new long[] {200, 800, 825, 0, 750, 600});
        pinches(x, 3, 80);
        x.bought(true, 500, 1);
        x.bought(false, 0, 1);
        x.forbid(0, 3, true);
        bothLeast(x, 3, 200, 600);
        Check.due("levels with bought ones", x.levels(3), 6);
    }

    private static void eachWork() {
        HeatWorks x = four();
        bothLeast(x, 0, 0, 1000);
        look(x, 0, new int[] {160, 135, 50, 20}, new long[] {0, 750, 1600, 1000});
        pinches(x, 0);
        bothLeast(x, 1, 1500, 900);
        look(x, 1, new int[] {140, 80, 20}, new long[] {1500, 0, 900});
        pinches(x, 1, 80);
        bothLeast(x, 2, 0, 0);
        look(x, 2, new int[0], new long[0]);
        pinches(x, 2);
    }

    private static void noWork() {
        HeatWorks x = four();
        int[] beyond = {-1, 4, MIN, MAX};
        for (int work : beyond) {
            bothLeast(x, work, -1, -1);
            Check.due("pinch", x.pinch(work, 0), -1);
            Check.due("level", x.level(work, 0), -1);
            Check.due("levels", x.levels(work), -1);
            Check.due("goesOn", x.goesOn(work, 0), -1);
            Check.due("line", x.line(work, true, 0), -1);
        }
    }

    private static void lines() {
        HeatWorks x = four();
        Check.due("hot above 80", x.line(3, true, 80), 3300);
        Check.due("cold above 80", x.line(3, false, 80), 3500);
        Check.due("hot of work 0 above 80", x.line(0, true, 80), 2400);
        Check.due("cold of work 1 above 81", x.line(1, false, 81), 2360);
        Check.due("hot above 160", x.line(3, true, 160), 0);
        Check.due("hot above 159", x.line(3, true, 159), 30);
        Check.due("hot above MAX", x.line(3, true, MAX), 0);
        Check.due("hot above MIN", x.line(3, true, MIN), 5100);
        Check.due("cold above MIN", x.line(3, false, MIN), 4700);
        Check.due("of a work without streams", x.line(2, false, MIN), 0);
        x.still(0, true, 90, 7);
        x.still(0, false, 80, 9);
        Check.due("a still hot one at it", x.line(3, true, 80), 3307);
        Check.due("a still hot one below it", x.line(3, true, 81), 3300 - 45);
        Check.due("a still cold one at it", x.line(3, false, 80), 3509);
        Check.due("a still cold one below it", x.line(3, false, 81), 3500 - 60);
        x.bought(true, 90, 5);
        Check.due("bought ones are not there", x.line(3, true, 80), 3307);
    }

    private static void stills() {
        HeatWorks x = new HeatWorks();
        x.still(0, false, 70, 40);
        x.still(0, true, 60, 100);
        x.still(0, false, 50, 30);
        bothLeast(x, 0, 40, 70);
        look(x, 0, new int[] {70, 50}, new long[] {0, 70});
        pinches(x, 0, 70, 50);
        x = new HeatWorks();
        x.plain(0, 0, 100, 1);
        x.still(0, true, 60, 30);
        bothLeast(x, 0, 70, 0);
        look(x, 0, new int[] {100, 50, 0}, new long[] {70, 50, 0});
        pinches(x, 0);
        x.still(0, true, 60, 60);
        bothLeast(x, 0, 50, 40);
        look(x, 0, new int[] {100, 50, 0}, new long[] {50, 90, 40});
        pinches(x, 0, 50);
    }

    private static void pinchAtEnds() {
        HeatWorks x = new HeatWorks();
        x.still(0, true, 100, 20);
        x.still(0, false, 80, 20);
        bothLeast(x, 0, 0, 0);
        pinches(x, 0);
        x.still(0, true, 80, 10);
        bothLeast(x, 0, 0, 10);
        look(x, 0, new int[] {90, 80, 70}, new long[] {20, 0, 10});
        pinches(x, 0, 80, 70);
        x = new HeatWorks();
        x.still(0, false, 50, 5);
        bothLeast(x, 0, 5, 0);
        pinches(x, 0);
        x = new HeatWorks();
        x.still(0, true, 60, 5);
        bothLeast(x, 0, 0, 5);
        pinches(x, 0);
        x = new HeatWorks();
        x.still(0, false, 50, 5);
        x.still(0, false, 40, 5);
        x.still(0, true, 40, 5);
        bothLeast(x, 0, 10, 5);
        look(x, 0, new int[] {50, 40, 30}, new long[] {5, 0, 5});
        pinches(x, 0, 40, 30);
        x.still(0, true, 60, 5);
        bothLeast(x, 0, 5, 5);
        pinches(x, 0, 40, 30);
    }

    private static void bends() {
        HeatWorks x = new HeatWorks();
        StreamsTest.row(x, 0, 10, 2, 20, 5);
        x.bent(0, true, 100, 0, 2);
        bothLeast(x, 0, 0, 120);
        look(x, 0, new int[] {90, 80, 60}, new long[] {0, 20, 120});
        x.bent(1, false, 50, 0, 2);
        bothLeast(x, 1, 120, 0);
        look(x, 1, new int[] {80, 60, 50}, new long[] {120, 20, 0});
        Check.due("each once", x.levels(3), 4);
        bothLeast(x, 3, 0, 0);
        look(x, 3, new int[] {90, 80, 60, 50}, new long[] {0, 20, 20, 0});
        Check.due("line in a span", x.line(0, true, 75), 45);
        Check.due("line in the first span", x.line(0, true, 85), 10);
        Check.due("line of a cold one", x.line(1, false, 55), 110);
    }

    private static void lowLevels() {
        HeatWorks x = new HeatWorks();
        x.gap(200);
        x.still(0, true, 0, 5);
        x.plain(0, 150, 50, 1);
        bothLeast(x, 0, 0, 105);
        look(x, 0, new int[] {-50, -150, -200}, new long[] {0, 100, 105});
        x.still(0, false, 2000, 3);
        bothLeast(x, 0, 3, 105);
        look(x, 0, new int[] {2000, -50, -150, -200}, new long[] {0, 0, 100, 105});
        pinches(x, 0, 2000, -50);
    }

    private static void large() {
        HeatWorks x = new HeatWorks();
        for (int i = 0; i < 12; i++) {
            x.plain(i % 3, 0, 2000, 1000);
        }
        bothLeast(x, 3, 24000000L, 0);
        bothLeast(x, 1, 8000000L, 0);
        Check.due("line", x.line(3, false, -1), 24000000L);
    }
}
