/** The bounds that promises 30 and 31 name: engine, carrier. */
public final class BoundsEngineCarrierTest {
    private static final int MIN = Bounds.MIN;
    private static final int MAX = Bounds.MAX;

    public static void main(String[] args) {
        engineHeat();
        engineWork();
        engineSecondBelowFirst();
        engineLevels();
        engineAllAtOnce();
        engineWithoutStreams();
        engineOfAllWorks();
        engineAtThePinch();
        engineAtLevelsOfStreams();
        engineUpToWhatGoesOn();
        engineBesideBoughtOnes();
        engineWithMostLevels();
        carrierWorks();
        carrierUnlike();
        carrierLevels();
        carrierWithoutStreams();
        carrierFirstGives();
        carrierSecondTakes();
        carrierAtItsLevel();
        carrierBelowItsPinch();
        carrierOneWay();
        carrierMost();
        carrierOfOtherWorks();
        Check.end();
    }

    /** HOT heat at LEVEL 1990 that none wants: all that an engine takes there or below is saved. */
    private static HeatWorks plenty() {
        HeatWorks x = new HeatWorks();
        x.still(0, true, 2000, 1000000);
        x.still(1, true, 2000, 1000000);
        return x;
    }

    /** COLD heat wanted at LEVEL 0: all that an engine gives is saved. */
    private static HeatWorks need() {
        HeatWorks x = new HeatWorks();
        x.still(0, false, 0, 1000000);
        x.still(1, false, 0, 1000000);
        return x;
    }

    private static void engine(String name, Bounds.Maker maker, int[] told, long want) {
        Bounds.answers(name, maker, x -> x.engine(told[0], told[1], told[2], told[3]), want);
    }

    private static int[] told(int heat, int level, int work, int lower) {
        return new int[] {heat, level, work, lower};
    }

    // ---- promise 30 ----

    /** "0 if heat is not 1 to 1000000" */
    private static void engineHeat() {
        Bounds.Maker plenty = BoundsEngineCarrierTest::plenty;
        engine("engine: heat 1", plenty, told(1, 100, 0, 50), 1);
        engine("engine: heat 1000000", plenty, told(1000000, 100, 0, 50), 1000000);
        int[] none = {0, 1000001, -1, MIN, MAX};
        for (int heat : none) {
            engine("engine: heat " + heat, plenty, told(heat, 100, 0, 50), 0);
        }
        engine("engine: heat 1 of a need", BoundsEngineCarrierTest::need, told(1, 100, 0, 50), 1);
        engine("engine: heat 1000000 of a need", BoundsEngineCarrierTest::need, told(1000000, 100, 0, 50), 1000000);
    }

    /** "work not 0 to heat" */
    private static void engineWork() {
        Bounds.Maker plenty = BoundsEngineCarrierTest::plenty;
        Bounds.Maker need = BoundsEngineCarrierTest::need;
        engine("engine: work 0", plenty, told(100, 100, 0, 50), 100);
        engine("engine: work is heat", plenty, told(100, 100, 100, 50), 100);
        int[] none = {-1, 101, MIN, MAX};
        for (int work : none) {
            engine("engine: work " + work, plenty, told(100, 100, work, 50), 0);
        }
        engine("engine: no work, all is given", need, told(100, 100, 0, 50), 100);
        engine("engine: a unit is given", need, told(100, 100, 99, 50), 1);
        engine("engine: all is work, none is given", need, told(100, 100, 100, 50), 0);
        engine("engine: heat 1, work 1", plenty, told(1, 100, 1, 50), 1);
        engine("engine: heat 1, work 2", plenty, told(1, 100, 2, 50), 0);
        engine("engine: work 1000000", plenty, told(1000000, 100, 1000000, 50), 1000000);
    }

    /** "the second LEVEL not below the first" */
    private static void engineSecondBelowFirst() {
        Bounds.Maker plenty = BoundsEngineCarrierTest::plenty;
        engine("engine: a degree below", plenty, told(100, 100, 20, 99), 100);
        engine("engine: the same level", plenty, told(100, 100, 20, 100), 0);
        engine("engine: a degree above", plenty, told(100, 100, 20, 101), 0);
        engine("engine: a degree below 0", plenty, told(100, 0, 20, -1), 100);
    }

    /** "either not -200 to 2000" */
    private static void engineLevels() {
        Bounds.Maker plenty = BoundsEngineCarrierTest::plenty;
        Bounds.Maker need = BoundsEngineCarrierTest::need;
        engine("engine: from 2000", need, told(100, 2000, 20, 0), 80);
        engine("engine: from 2001", need, told(100, 2001, 20, 0), 0);
        engine("engine: from 2000 to 1999", need, told(100, 2000, 20, 1999), 80);
        engine("engine: to -200", plenty, told(100, 50, 20, -200), 100);
        engine("engine: to -201", plenty, told(100, 50, 20, -201), 0);
        engine("engine: from -199 to -200", plenty, told(100, -199, 20, -200), 100);
        engine("engine: from -200 to -201", plenty, told(100, -200, 20, -201), 0);
        engine("engine: from 2001 to 2000", need, told(100, 2001, 20, 2000), 0);
        engine("engine: from MAX", need, told(100, MAX, 20, 0), 0);
        engine("engine: to MIN", plenty, told(100, 50, 20, MIN), 0);
        engine("engine: from MAX to MIN", plenty, told(100, MAX, 20, MIN), 0);
    }

    private static void engineAllAtOnce() {
        Bounds.Maker plenty = BoundsEngineCarrierTest::plenty;
        engine("engine: all at once", plenty, told(MIN, MIN, MIN, MIN), 0);
        engine("engine: all at once", plenty, told(MAX, MAX, MAX, MAX), 0);
        engine("engine: the widest", plenty, told(1000000, 2000, 0, -200), 0);
        engine("engine: in some works", Bounds::some, told(0, 100, 0, 50), 0);
    }

    /** Its heat is bought for it alone: nothing is saved. */
    private static void engineWithoutStreams() {
        engine("engine without streams", Bounds::fresh, told(100, 50, 20, 20), 0);
        engine("engine without streams, no work", Bounds::fresh, told(100, 50, 0, 20), 0);
        engine("engine without streams, all work", Bounds::fresh, told(1000000, 2000, 1000000, -200), 0);
    }

    private static void engineOfAllWorks() {
        for (int work = 0; work < 3; work++) {
            HeatWorks x = new HeatWorks();
            x.still(work, true, 110, 70);
            Check.due("engine takes of work " + work, x.engine(100, 90, 30, 20), 70);
            x = new HeatWorks();
            x.still(work, false, 20, 50);
            Check.due("engine gives to work " + work, x.engine(100, 90, 30, 20), 50);
        }
        HeatWorks x = new HeatWorks();
        x.still(0, true, 110, 70);
        x.still(1, false, 20, 50);
        Check.due("engine between works", x.engine(100, 90, 30, 20), 70);
    }

    /** At a PINCH, a degree above it, a degree below it. */
    private static void engineAtThePinch() {
        HeatWorks x = LinesTest.four();
        Check.due("engine from the pinch", x.engine(100, 80, 20, 50), 0);
        Check.due("engine from a degree below", x.engine(100, 79, 20, 50), 25);
        Check.due("engine from four degrees below", x.engine(100, 76, 20, 50), 100);
        Check.due("engine to the pinch", x.engine(100, 140, 20, 80), 0);
        Check.due("engine to a degree above", x.engine(100, 140, 20, 81), 15);
        Check.due("engine to six degrees above", x.engine(100, 140, 20, 86), 80);
        Check.due("engine over the pinch", x.engine(100, 81, 20, 79), 0);
    }

    /** At the LEVEL of a STILL one, a degree beside it. */
    private static void engineAtLevelsOfStreams() {
        HeatWorks x = new HeatWorks();
        x.still(0, true, 110, 70);
        Check.due("engine from the HOT one's level", x.engine(50, 100, 0, 20), 50);
        Check.due("engine from a degree above it", x.engine(50, 101, 0, 20), 0);
        Check.due("engine from a degree below it", x.engine(50, 99, 0, 20), 50);
        x = new HeatWorks();
        x.still(0, false, 40, 70);
        Check.due("engine to the COLD one's level", x.engine(50, 100, 0, 40), 50);
        Check.due("engine to a degree below it", x.engine(50, 100, 0, 39), 0);
        Check.due("engine to a degree above it", x.engine(50, 100, 0, 41), 50);
    }

    private static void engineUpToWhatGoesOn() {
        HeatWorks x = new HeatWorks();
        x.still(0, true, 110, 70);
        x.still(0, false, 20, 30);
        Check.due("engine: a unit less than is over", x.engine(39, 60, 39, 50), 39);
        Check.due("engine: just what is over", x.engine(40, 60, 40, 50), 40);
        Check.due("engine: a unit more than is over", x.engine(41, 60, 41, 50), 40);
        Check.due("engine: all, the rest comes back", x.engine(70, 60, 40, 50), 70);
        Check.due("engine: a unit of work more", x.engine(70, 60, 41, 50), 69);
        Check.due("engine: the rest comes too late", x.engine(70, 60, 40, 19), 40);
    }

    private static void engineBesideBoughtOnes() {
        HeatWorks x = new HeatWorks();
        x.bought(true, 2000, 1);
        x.bought(false, 0, 1);
        Check.due("engine: bought ones are not there", x.engine(100, 50, 20, 20), 0);
    }

    /** 108 LEVELS, and two more of the engine's own. */
    private static void engineWithMostLevels() {
        HeatWorks x = LinesTest.full();
        Check.due("above all", x.engine(1000, 2000, 400, 1999), 0);
        Check.due("below all", x.engine(1000, -199, 400, -200), 0);
        Check.due("above and below all", x.engine(1000, 2000, 400, -200), 0);
        long between = x.line(3, true, 499) - x.line(3, false, 499);
        Check.due("between", x.engine(1, 500, 0, 499), Math.min(between, 1));
        Check.due("levels stay", x.levels(3), 108);
        x.gap(14);
        Check.due("most levels with gap 14", x.levels(3), 108);
        Check.due("the pinch with gap 14", x.pinch(3, 0), 777);
        Check.due("to a degree above it, both levels new", x.engine(10, 2000, 0, 778), 8);
        Check.due("to the pinch", x.engine(10, 2000, 0, 777), 0);
    }

    // ---- promise 31 ----

    private static void carrier(String name, Bounds.Maker maker, int[] told, long want) {
        Bounds.answers(name, maker, x -> x.carrier(told[0], told[1], told[2]), want);
    }

    /** Each WORK could both give and take. */
    private static HeatWorks three() {
        HeatWorks x = new HeatWorks();
        for (int work = 0; work < 3; work++) {
            x.still(work, false, 95, 30 + work);
            x.still(work, true, 100, 40 + work);
        }
        return x;
    }

    /** "NONE without these": WORKS are 0 to 2. */
    private static void carrierWorks() {
        int[] none = {-1, 3, MIN, MAX};
        for (int work : none) {
            carrier("carrier from " + work, Bounds::some, new int[] {work, 1, 70}, -1);
            carrier("carrier to " + work, Bounds::some, new int[] {0, work, 70}, -1);
            carrier("carrier from and to " + work, Bounds::some, new int[] {work, work, 70}, -1);
        }
        for (int from = 0; from < 3; from++) {
            for (int to = 0; to < 3; to++) {
                HeatWorks x = new HeatWorks();
                x.still(from, true, 110, 8);
                x.still(to, false, 50, 5);
                Check.due("carrier from " + from + " to " + to, x.carrier(from, to, 70), from == to ? -1 : 5);
            }
        }
    }

    /** "(two unlike ones)" */
    private static void carrierUnlike() {
        for (int work = 0; work < 3; work++) {
            carrier("carrier from " + work + " to itself", BoundsEngineCarrierTest::three,
                    new int[] {work, work, 70}, -1);
            carrier("carrier from " + work + " to itself, without streams", Bounds::fresh,
                    new int[] {work, work, 70}, -1);
        }
    }

    /** "or a LEVEL not -200 to 2000" */
    private static void carrierLevels() {
        carrier("carrier at 2000", Bounds::some, new int[] {0, 1, 2000}, 0);
        carrier("carrier at -200", Bounds::some, new int[] {0, 1, -200}, 0);
        int[] none = {-201, 2001, MIN, MAX};
        for (int level : none) {
            carrier("carrier at " + level, Bounds::some, new int[] {0, 1, level}, -1);
        }
        HeatWorks x = new HeatWorks();
        x.gap(1);
        x.still(0, true, 2000, 9);
        x.still(1, false, 1999, 9);
        Check.due("carrier at 1999", x.carrier(0, 1, 1999), 9);
        Check.due("carrier at 1998", x.carrier(0, 1, 1998), 0);
        Check.due("carrier at 2000", x.carrier(0, 1, 2000), 0);
        x = new HeatWorks();
        x.gap(200);
        x.still(0, true, 0, 9);
        x.still(1, false, 0, 9);
        Check.due("carrier at -200", x.carrier(0, 1, -200), 0);
        Check.due("carrier at 0", x.carrier(0, 1, 0), 0);
        Check.due("carrier at -1 is none of NONE", x.carrier(0, 1, -1), 0);
    }

    private static void carrierWithoutStreams() {
        carrier("carrier without streams", Bounds::fresh, new int[] {0, 1, 70}, 0);
        HeatWorks x = new HeatWorks();
        x.still(0, true, 110, 8);
        Check.due("carrier: the second has none", x.carrier(0, 1, 70), 0);
        Check.due("carrier: the first has none", x.carrier(1, 0, 70), 0);
        x.still(2, false, 50, 8);
        Check.due("carrier: the first has none", x.carrier(1, 2, 70), 0);
        Check.due("carrier: both have", x.carrier(0, 2, 70), 8);
    }

    /** "the most heat that the first can give there .. without more LEAST HEAT of its own" */
    private static void carrierFirstGives() {
        HeatWorks x = new HeatWorks();
        x.still(0, true, 110, 40);
        x.still(0, false, 30, 25);
        x.still(1, false, 50, 1000);
        Check.due("first keeps what it needs below", x.carrier(0, 1, 70), 15);
        Check.due("first at its level", x.carrier(0, 1, 100), 15);
        Check.due("first a degree above its level", x.carrier(0, 1, 101), 0);
        x.still(0, false, 20, 14);
        Check.due("first has a unit", x.carrier(0, 1, 70), 1);
        x.still(0, false, 20, 1);
        Check.due("first has none", x.carrier(0, 1, 70), 0);
        x.still(0, false, 20, 1);
        Check.due("first needs itself", x.carrier(0, 1, 70), 0);
    }

    /** "and the second take there .. with as much less of its own" */
    private static void carrierSecondTakes() {
        HeatWorks x = new HeatWorks();
        x.still(0, true, 110, 1000);
        x.still(1, false, 60, 40);
        x.still(1, true, 95, 25);
        Check.due("second takes what it lacks", x.carrier(0, 1, 70), 15);
        Check.due("second at its level", x.carrier(0, 1, 60), 15);
        Check.due("second a degree below its level", x.carrier(0, 1, 59), 0);
        x.still(1, true, 95, 14);
        Check.due("second lacks a unit", x.carrier(0, 1, 70), 1);
        x.still(1, true, 95, 1);
        Check.due("second lacks none", x.carrier(0, 1, 70), 0);
        x.still(1, true, 95, 1);
        Check.due("second has more", x.carrier(0, 1, 70), 0);
    }

    /** STILL ones at the LEVEL itself, of the first and of the second. */
    private static void carrierAtItsLevel() {
        HeatWorks x = new HeatWorks();
        x.still(0, true, 80, 40);
        x.still(0, false, 70, 25);
        x.still(1, false, 70, 1000);
        Check.due("first gives what it has over at it", x.carrier(0, 1, 70), 15);
        x = new HeatWorks();
        x.still(0, true, 110, 1000);
        x.still(1, true, 80, 25);
        x.still(1, false, 70, 40);
        Check.due("second takes what it lacks at it", x.carrier(0, 1, 70), 15);
        x.plain(1, 71, 80, 1);
        Check.due("second takes nothing of what it lacks above", x.carrier(0, 1, 70), 15);
        Check.due("second, a degree above", x.carrier(0, 1, 71), 15);
        Check.due("second, five degrees above", x.carrier(0, 1, 75), 19);
        Check.due("second, above all", x.carrier(0, 1, 80), 24);
    }

    /** Of a WORK with a PINCH, the first gives below it, the second takes above it. */
    private static void carrierBelowItsPinch() {
        HeatWorks x = new HeatWorks();
        x.still(0, false, 90, 10);
        x.still(0, true, 90, 20);
        x.still(1, false, 75, 7);
        x.still(1, true, 75, 5);
        Check.due("above both", x.carrier(0, 1, 90), 0);
        Check.due("a degree above where the first has it", x.carrier(0, 1, 81), 0);
        Check.due("where the first has it", x.carrier(0, 1, 80), 7);
        Check.due("where the second wants it", x.carrier(0, 1, 75), 7);
        Check.due("a degree below where the second wants it", x.carrier(0, 1, 74), 0);
        Check.due("below both", x.carrier(0, 1, 65), 0);
        Check.due("the other way", x.carrier(1, 0, 65), 0);
        Check.due("the other way", x.carrier(1, 0, 90), 0);
    }

    private static void carrierOneWay() {
        HeatWorks x = new HeatWorks();
        x.still(0, true, 110, 8);
        x.still(1, false, 50, 5);
        Check.due("this way", x.carrier(0, 1, 70), 5);
        Check.due("the other way", x.carrier(1, 0, 70), 0);
    }

    private static void carrierMost() {
        HeatWorks x = new HeatWorks();
        for (int i = 0; i < 6; i++) {
            x.plain(0, 2000, 1100, 1000);
            x.plain(1, 0, 900, 1000);
        }
        Check.due("all of six to six", x.carrier(0, 1, 1000), 5400000);
    }

    private static void carrierOfOtherWorks() {
        HeatWorks x = new HeatWorks();
        x.still(0, true, 110, 8);
        x.still(1, false, 50, 5);
        x.still(2, true, 110, 500);
        x.still(2, false, 50, 700);
        x.bought(true, 2000, 1);
        x.bought(false, 0, 1);
        Check.due("the third and bought ones are nothing to it", x.carrier(0, 1, 70), 5);
    }
}
