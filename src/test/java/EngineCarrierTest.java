/** Promises 30 and 31: engine, carrier. */
public final class EngineCarrierTest {
    public static void main(String[] args) {
        engines();
        enginesRefused();
        engineAlone();
        engineWithMostLevels();
        carriers();
        carriersRefused();
        carrierOfStills();
        Check.end();
    }

    private static void engines() {
        HeatWorks x = LinesTest.four();
        Check.due("above the pinch", x.engine(100, 140, 20, 120), 80);
        Check.due("below the pinch", x.engine(100, 50, 20, 20), 100);
        Check.due("over the pinch", x.engine(100, 140, 20, 20), 0);
        Check.due("from far above", x.engine(100, 2000, 20, 160), 80);
        Check.due("to far below", x.engine(100, 50, 20, -200), 100);
        Check.due("down to the pinch", x.engine(100, 140, 20, 80), 0);
        Check.due("from the pinch", x.engine(100, 80, 20, 50), 0);
        Check.due("just below the pinch", x.engine(100, 79, 20, 50), 25);
        Check.due("just above the pinch", x.engine(100, 140, 20, 81), 15);
        Check.due("all of it work", x.engine(100, 50, 100, 20), 100);
        Check.due("all of it work, above", x.engine(100, 140, 100, 120), 0);
        Check.due("none of it work", x.engine(100, 140, 0, 120), 100);
        Check.due("more than there is", x.engine(1000, 50, 0, 20), 600);
        Check.due("nothing is changed", x.least(3), 200);
        Check.due("no act", x.count(2), 4);
        Check.due("no level", x.levels(3), 6);
    }

    private static void engineWithMostLevels() {
        HeatWorks x = LinesTest.full();
        Check.due("all of it work", x.engine(5, 500, 5, 499), 0);
        Check.due("within what goes on", x.engine(5, 500, 0, 499), 5);
        Check.due("more than goes on", x.engine(1000, 500, 0, 499), Math.min(goesOnAt(x, 500), goesOnAt(x, 499)));
        Check.due("far apart", x.engine(1000, 2000, 400, -200), 0);
        Check.due("far above", x.engine(1000, 2000, 400, 1999), 0);
        Check.due("far below", x.engine(1000, -100, 400, -200), 0);
    }

    /** What goes on at a LEVEL with nothing bought. */
    private static long goesOnAt(HeatWorks x, int level) {
        return x.line(3, true, level) - x.line(3, false, level);
    }

    private static void enginesRefused() {
        HeatWorks x = LinesTest.four();
        Check.due("heat 0", x.engine(0, 50, 0, 20), 0);
        Check.due("heat 1", x.engine(1, 50, 0, 20), 1);
        Check.due("heat 1000000", x.engine(1000000, 50, 0, 20), 600);
        Check.due("heat 1000001", x.engine(1000001, 50, 0, 20), 0);
        Check.due("work -1", x.engine(100, 50, -1, 20), 0);
        Check.due("work 101", x.engine(100, 50, 101, 20), 0);
        Check.due("the same level", x.engine(100, 50, 20, 50), 0);
        Check.due("a higher level", x.engine(100, 50, 20, 51), 0);
        Check.due("level 2001", x.engine(100, 2001, 20, 100), 0);
        Check.due("lower -201", x.engine(100, 50, 20, -201), 0);
        Check.due("lower -200", x.engine(100, 50, 20, -200), 100);
        Check.due("MIN", x.engine(Integer.MIN_VALUE, 50, Integer.MIN_VALUE, 20), 0);
    }

    private static void engineAlone() {
        HeatWorks x = new HeatWorks();
        Check.due("without streams", x.engine(100, 50, 20, 20), 0);
        x.still(0, false, 20, 50);
        Check.due("its rest warms", x.engine(100, 50, 20, 20), 50);
        Check.due("its rest is too cold", x.engine(100, 50, 20, 19), 0);
    }

    private static void carriers() {
        HeatWorks x = LinesTest.four();
        Check.due("at 100", x.carrier(0, 1, 100), 500);
        Check.due("at 80", x.carrier(0, 1, 80), 0);
        Check.due("at 81", x.carrier(0, 1, 81), 25);
        Check.due("at 140", x.carrier(0, 1, 140), 600);
        Check.due("at 150", x.carrier(0, 1, 150), 300);
        Check.due("at 136", x.carrier(0, 1, 136), 720);
        Check.due("at 120", x.carrier(0, 1, 120), 900);
        Check.due("at 119", x.carrier(0, 1, 119), 910);
        Check.due("at 118", x.carrier(0, 1, 118), 920);
        Check.due("at 115", x.carrier(0, 1, 115), 875);
        Check.due("at 160", x.carrier(0, 1, 160), 0);
        Check.due("at 2000", x.carrier(0, 1, 2000), 0);
        Check.due("at 20", x.carrier(0, 1, 20), 0);
        Check.due("at -200", x.carrier(0, 1, -200), 0);
        Check.due("the other way", x.carrier(1, 0, 50), 0);
        Check.due("to no streams", x.carrier(0, 2, 100), 0);
        Check.due("from no streams", x.carrier(2, 1, 100), 0);
        Check.due("no act", x.count(2), 4);
    }

    private static void carriersRefused() {
        HeatWorks x = LinesTest.four();
        Check.due("the same", x.carrier(0, 0, 100), -1);
        Check.due("from 3", x.carrier(3, 1, 100), -1);
        Check.due("to 3", x.carrier(0, 3, 100), -1);
        Check.due("from -1", x.carrier(-1, 1, 100), -1);
        Check.due("to -1", x.carrier(0, -1, 100), -1);
        Check.due("level 2001", x.carrier(0, 1, 2001), -1);
        Check.due("level -201", x.carrier(0, 1, -201), -1);
        Check.due("level MIN", x.carrier(0, 1, Integer.MIN_VALUE), -1);
    }

    private static void carrierOfStills() {
        HeatWorks x = new HeatWorks();
        x.still(0, true, 100, 40);
        x.still(1, false, 90, 30);
        Check.due("at their level", x.carrier(0, 1, 90), 30);
        Check.due("above the first", x.carrier(0, 1, 91), 0);
        Check.due("below the second", x.carrier(0, 1, 89), 0);
        x.still(0, false, 10, 25);
        Check.due("what it needs itself further down", x.carrier(0, 1, 90), 15);
        x.still(1, true, 105, 7);
        Check.due("what the second has itself", x.carrier(0, 1, 90), 15);
        x.still(1, true, 105, 17);
        Check.due("what the second has itself", x.carrier(0, 1, 90), 6);
        x = new HeatWorks();
        for (int i = 0; i < 2; i++) {
            x.still(0, true, 100, 1000000);
            x.still(1, false, 90, 1000000);
        }
        Check.due("more than a still one has", x.carrier(0, 1, 90), 2000000);
    }
}
