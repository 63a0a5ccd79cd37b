/** The bounds that promises 18 to 24 and part II of the terms name: least, cold, pinch, level, levels, goesOn, line. */
public final class BoundsLinesTest {
    private static final int MIN = Bounds.MIN;
    private static final int MAX = Bounds.MAX;
    private static final int[] NO_WORKS = {-1, 4, MIN, MAX};

    public static void main(String[] args) {
        noSuchWork();
        everyWork();
        withoutStreams();
        boughtOnesAlone();
        boughtOnesDoNotCount();
        oneHotStill();
        oneColdStill();
        oneDegree();
        levelOfAWarmth();
        levelsEachOnce();
        levelsOfSpans();
        levelPlaces();
        levelsBelowZero();
        lowestAndHighestLevel();
        mostLevels();
        leastHeatIsZeroAtLeast();
        leastHeatByAUnit();
        comesAloneIsBelowZero();
        goesOnAloneIsBelowZero();
        bothAtOneLevel();
        pinchByComes();
        pinchByGoesOn();
        highestIsNoPinch();
        highestIsAPinch();
        lowestIsNoPinch();
        lowestIsAPinch();
        allLevelsArePinches();
        pinchPlaces();
        pinchThatLooksLikeNone();
        goesOnPlaces();
        goesOnAtTheEnds();
        lineOfPlain();
        lineOfCold();
        lineOfStill();
        lineOfBent();
        lineWithTheGap();
        mostHeat();
        Check.end();
    }

    private static void bothLeast(String name, HeatWorks x, int work, long heat, long cold) {
        Check.due(name + ": least(" + work + ")", x.least(work), heat);
        Check.due(name + ": cold(" + work + ")", x.cold(work), cold);
    }

    /** All PINCHES, and NONE behind the last. */
    private static void pinches(String name, HeatWorks x, int work, int... want) {
        for (int k = 0; k < want.length; k++) {
            Check.due(name + ": pinch " + k, x.pinch(work, k), want[k]);
        }
        Check.due(name + ": no pinch behind the last", x.pinch(work, want.length), -1);
    }

    private static void levels(String name, HeatWorks x, int work, int... want) {
        Check.due(name + ": levels", x.levels(work), want.length);
        for (int k = 0; k < want.length; k++) {
            Check.due(name + ": level " + k, x.level(work, k), want[k]);
        }
        Check.due(name + ": no level behind the last", x.level(work, want.length), -1);
    }

    private static void goesOn(String name, HeatWorks x, int work, long... want) {
        for (int k = 0; k < want.length; k++) {
            Check.due(name + ": goesOn " + k, x.goesOn(work, k), want[k]);
        }
        Check.due(name + ": goesOn behind the last", x.goesOn(work, want.length), -1);
    }

    // ---- the WORK ----

    /** "NONE without it": the WORK, of all seven questions. */
    private static void noSuchWork() {
        for (int work : NO_WORKS) {
            Bounds.answers("least of work " + work, x -> x.least(work), -1);
            Bounds.answers("cold of work " + work, x -> x.cold(work), -1);
            Bounds.answers("pinch of work " + work, x -> x.pinch(work, 0), -1);
            Bounds.answers("level of work " + work, x -> x.level(work, 0), -1);
            Bounds.answers("levels of work " + work, x -> x.levels(work), -1);
            Bounds.answers("goesOn of work " + work, x -> x.goesOn(work, 0), -1);
            Bounds.answers("line of work " + work, x -> x.line(work, true, 0), -1);
            Bounds.answers("COLD line of work " + work, x -> x.line(work, false, 0), -1);
        }
    }

    /** "of a WORK (of all: 3)": each WORK has a stream of its own, all have the three. */
    private static void everyWork() {
        HeatWorks x = new HeatWorks();
        x.still(0, true, 110, 5);
        x.still(1, false, 60, 7);
        x.still(2, true, 40, 11);
        bothLeast("work 0", x, 0, 0, 5);
        bothLeast("work 1", x, 1, 7, 0);
        bothLeast("work 2", x, 2, 0, 11);
        bothLeast("all works", x, 3, 2, 11);
        levels("work 0", x, 0, 100);
        levels("work 1", x, 1, 60);
        levels("work 2", x, 2, 30);
        levels("all works", x, 3, 100, 60, 30);
        goesOn("work 0", x, 0, 5);
        goesOn("work 1", x, 1, 0);
        goesOn("work 2", x, 2, 11);
        goesOn("all works", x, 3, 7, 0, 11);
        pinches("all works", x, 3, 60, 30);
        int[] hot = {5, 0, 11, 16};
        int[] cold = {0, 7, 0, 7};
        for (int work = 0; work < 4; work++) {
            Check.due("HOT line of work " + work, x.line(work, true, -200), hot[work]);
            Check.due("COLD line of work " + work, x.line(work, false, -200), cold[work]);
        }
    }

    private static void none(String name, HeatWorks x, int work) {
        bothLeast(name, x, work, 0, 0);
        Check.due(name + ": levels", x.levels(work), 0);
        int[] places = {0, 1, -1, MIN, MAX};
        for (int k : places) {
            Check.due(name + ": pinch " + k, x.pinch(work, k), -1);
            Check.due(name + ": level " + k, x.level(work, k), -1);
            Check.due(name + ": goesOn " + k, x.goesOn(work, k), -1);
        }
        Check.due(name + ": HOT line", x.line(work, true, MIN), 0);
        Check.due(name + ": COLD line", x.line(work, false, MIN), 0);
    }

    /** "0 without streams" */
    private static void withoutStreams() {
        for (int work = 0; work < 4; work++) {
            none("no streams, work " + work, new HeatWorks(), work);
        }
        HeatWorks x = new HeatWorks();
        x.plain(0, 100, 50, 3);
        x.plain(2, 40, 90, 3);
        none("streams of other works", x, 1);
        x.undo();
        x.undo();
        none("streams that are undone", x, 3);
    }

    /** "(3, 4 are of all WORKS; they count in IV alone.)" */
    private static void boughtOnesAlone() {
        HeatWorks x = new HeatWorks();
        x.bought(true, 100, 1);
        x.bought(false, 0, 1000);
        for (int work = 0; work < 4; work++) {
            none("bought ones alone, work " + work, x, work);
        }
    }

    private static void boughtOnesDoNotCount() {
        HeatWorks x = LinesTest.four();
        x.bought(true, 90, 200);
        x.bought(false, 80, 300);
        x.bought(true, 2000, 1);
        bothLeast("with bought ones", x, 3, 200, 600);
        levels("with bought ones", x, 3, 160, 140, 135, 80, 50, 20);
        pinches("with bought ones", x, 3, 80);
        goesOn("with bought ones", x, 3, 200, 800, 825, 0, 750, 600);
        Check.due("with bought ones: HOT line", x.line(3, true, 80), 3300);
        Check.due("with bought ones: COLD line", x.line(3, false, 80), 3500);
    }

    // ---- the fewest streams ----

    /** One LEVEL, highest and lowest at once: it is no PINCH, for LEAST HEAT is 0. */
    private static void oneHotStill() {
        HeatWorks x = new HeatWorks();
        x.still(1, true, 60, 1);
        bothLeast("one HOT STILL", x, 1, 0, 1);
        levels("one HOT STILL", x, 1, 50);
        goesOn("one HOT STILL", x, 1, 1);
        pinches("one HOT STILL", x, 1);
    }

    /** One LEVEL; it is no PINCH, for LEAST COLD is 0. */
    private static void oneColdStill() {
        HeatWorks x = new HeatWorks();
        x.still(1, false, 60, 1000000);
        bothLeast("one COLD STILL", x, 1, 1000000, 0);
        levels("one COLD STILL", x, 1, 60);
        goesOn("one COLD STILL", x, 1, 0);
        pinches("one COLD STILL", x, 1);
    }

    /** A LAYER of one degree. */
    private static void oneDegree() {
        HeatWorks x = new HeatWorks();
        x.plain(0, 11, 10, 1);
        bothLeast("a degree HOT", x, 0, 0, 1);
        levels("a degree HOT", x, 0, 1, 0);
        goesOn("a degree HOT", x, 0, 0, 1);
        pinches("a degree HOT", x, 0);
        x.plain(0, 0, 1, 1);
        bothLeast("a degree HOT and COLD", x, 0, 0, 0);
        levels("a degree HOT and COLD", x, 0, 1, 0);
        goesOn("a degree HOT and COLD", x, 0, 0, 0);
        pinches("a degree HOT and COLD", x, 0);
        x.plain(0, 1, 2, 1);
        bothLeast("a degree more", x, 0, 1, 0);
        goesOn("a degree more", x, 0, 1, 0, 0);
        pinches("a degree more", x, 0, 1);
    }

    // ---- LEVELS ----

    /** "of HOT streams the warmth less the GAP, of COLD ones the warmth itself" */
    private static void levelOfAWarmth() {
        int[] gaps = {1, 10, 200};
        for (int g : gaps) {
            HeatWorks x = new HeatWorks();
            x.gap(g);
            x.still(0, true, 700, 1);
            x.still(1, false, 700, 1);
            levels("HOT with gap " + g, x, 0, 700 - g);
            levels("COLD with gap " + g, x, 1, 700);
        }
    }

    /** "each once": HOT and COLD, STILL and PLAIN at one LEVEL. */
    private static void levelsEachOnce() {
        HeatWorks x = new HeatWorks();
        x.plain(0, 100, 60, 1);
        x.plain(0, 50, 90, 1);
        levels("both ends at one", x, 0, 90, 50);
        x.still(0, true, 100, 1);
        x.still(0, true, 100, 1);
        x.still(0, false, 50, 1);
        levels("STILL ones at them, too", x, 0, 90, 50);
        x.gap(11);
        levels("a degree beside", x, 0, 90, 89, 50, 49);
        x.gap(9);
        levels("a degree beside", x, 0, 91, 90, 51, 50);
        x.gap(40);
        levels("the end of one at the begin of another", x, 0, 90, 60, 50, 20);
        x.gap(50);
        levels("the begin at the end", x, 0, 90, 50, 10);
    }

    /** "begins, ends, or bends": one SPAN has two LEVELS, eight have nine. */
    private static void levelsOfSpans() {
        HeatWorks x = new HeatWorks();
        Bounds.row(x, 0, 2, 1, 1, 2, 2, 3, 3, 4, 4, 5, 5, 6, 6, 7, 7, 8, 8);
        x.bent(0, true, 100, 0, 1);
        levels("one span, HOT", x, 0, 90, 89);
        x.bent(1, false, 50, 0, 1);
        levels("one span, COLD", x, 1, 51, 50);
        x.bent(2, true, 100, 0, 8);
        levels("eight spans, HOT", x, 2, 90, 89, 87, 84, 80, 75, 69, 62, 54);
        x.undo();
        x.bent(2, false, 50, 0, 8);
        levels("eight spans, COLD", x, 2, 86, 78, 71, 65, 60, 56, 53, 51, 50);
    }

    /** Place k: the first, the last, and those beyond. */
    private static void levelPlaces() {
        Bounds.answers("level 0", LinesTest::four, x -> x.level(3, 0), 160);
        Bounds.answers("the last level", LinesTest::four, x -> x.level(3, 5), 20);
        int[] none = {-1, 6, MIN, MAX};
        for (int k : none) {
            Bounds.answers("level " + k, LinesTest::four, x -> x.level(3, k), -1);
            Bounds.answers("goesOn " + k, LinesTest::four, x -> x.goesOn(3, k), -1);
        }
        Bounds.answers("the last level of a work", LinesTest::four, x -> x.level(1, 2), 20);
        Bounds.answers("no level of a work, though of all", LinesTest::four, x -> x.level(1, 3), -1);
        Bounds.answers("no goesOn of a work, though of all", LinesTest::four, x -> x.goesOn(1, 3), -1);
    }

    /** "(It may be below 0 ..; levels() tells how many there are.)": a LEVEL of -1 is none of NONE. */
    private static void levelsBelowZero() {
        HeatWorks x = new HeatWorks();
        x.gap(2);
        x.plain(0, 2, 0, 1);
        levels("down to -2", x, 0, 0, -2);
        x.still(0, true, 1, 4);
        levels("-1 among them", x, 0, 0, -1, -2);
        goesOn("-1 among them", x, 0, 0, 5, 6);
        Check.due("line at -1", x.line(0, true, -1), 5);
        Check.due("line at -2", x.line(0, true, -2), 6);
    }

    /** "down to -200", and up to 2000. */
    private static void lowestAndHighestLevel() {
        HeatWorks x = new HeatWorks();
        x.gap(200);
        x.still(0, true, 0, 1);
        x.still(0, false, 2000, 1);
        x.still(0, false, 0, 1);
        x.still(0, true, 2000, 1);
        levels("the ends", x, 0, 2000, 1800, 0, -200);
        x.gap(1);
        levels("the ends with gap 1", x, 0, 2000, 1999, 0, -1);
        bothLeast("the ends", x, 0, 1, 1);
    }

    /** Twelve streams of eight SPANS, no two at one LEVEL: 108. */
    private static void mostLevels() {
        HeatWorks x = LinesTest.full();
        Check.due("most levels", x.levels(3), 108);
        Check.due("the highest", x.level(3, 0), 791);
        Check.due("the last but one", x.level(3, 106), 101);
        Check.due("the last", x.level(3, 107), 100);
        Check.due("none behind it", x.level(3, 108), -1);
        Check.due("goesOn at the last", x.goesOn(3, 107), 0);
        Check.due("goesOn behind it", x.goesOn(3, 108), -1);
        for (int work = 0; work < 3; work++) {
            Check.due("most levels of a work", x.levels(work), 36);
        }
        for (int k = 1; k < 108; k++) {
            Check.holds("the highest first", x.level(3, k) < x.level(3, k - 1));
        }
    }

    // ---- LEAST HEAT, LEAST COLD ----

    /** "LEAST HEAT: the least (0 at least) ..": more HOT than is wanted does not lower it. */
    private static void leastHeatIsZeroAtLeast() {
        HeatWorks x = new HeatWorks();
        x.still(0, true, 100, 1000000);
        x.still(0, false, 90, 1);
        bothLeast("far more than wanted", x, 0, 0, 999999);
        goesOn("far more than wanted", x, 0, 999999);
    }

    private static void leastHeatByAUnit() {
        HeatWorks x = new HeatWorks();
        x.still(0, true, 100, 30);
        x.still(0, false, 80, 29);
        bothLeast("one more than wanted", x, 0, 0, 1);
        pinches("one more than wanted", x, 0);
        x.undo();
        x.still(0, false, 80, 30);
        bothLeast("just as wanted", x, 0, 0, 0);
        pinches("just as wanted", x, 0);
        x.undo();
        x.still(0, false, 80, 31);
        bothLeast("one less than wanted", x, 0, 1, 0);
        pinches("one less than wanted", x, 0);
    }

    /** "with which no COMES .. is below 0": what a STILL one gives at a LEVEL is too late for what is above. */
    private static void comesAloneIsBelowZero() {
        HeatWorks x = new HeatWorks();
        x.plain(0, 50, 100, 1);
        x.still(0, true, 60, 80);
        bothLeast("COMES", x, 0, 50, 80);
        goesOn("COMES", x, 0, 50, 80);
        pinches("COMES", x, 0, 50);
    }

    /** "no GOES ON is below 0": what is given below a LEVEL is too late for a STILL one at it. */
    private static void goesOnAloneIsBelowZero() {
        HeatWorks x = new HeatWorks();
        x.still(0, false, 80, 30);
        x.plain(0, 90, 40, 1);
        bothLeast("GOES ON", x, 0, 30, 50);
        goesOn("GOES ON", x, 0, 0, 50);
        pinches("GOES ON", x, 0, 80);
    }

    /** STILL ones at one LEVEL give and take there together. */
    private static void bothAtOneLevel() {
        HeatWorks x = new HeatWorks();
        x.still(0, true, 90, 30);
        x.still(0, false, 80, 30);
        bothLeast("at one level", x, 0, 0, 0);
        x.gap(11);
        bothLeast("the HOT one a degree below", x, 0, 30, 30);
        pinches("the HOT one a degree below", x, 0, 80, 79);
        x.gap(9);
        bothLeast("the HOT one a degree above", x, 0, 0, 0);
    }

    // ---- PINCHES ----

    private static HeatWorks stills(int... levelsAndHeats) {
        HeatWorks x = new HeatWorks();
        for (int i = 0; i + 1 < levelsAndHeats.length; i += 2) {
            int heat = levelsAndHeats[i + 1];
            boolean hot = heat > 0;
            x.still(0, hot, hot ? levelsAndHeats[i] + 10 : levelsAndHeats[i], Math.abs(heat));
        }
        return x;
    }

    /** "COMES .. is 0" at a LEVEL where GOES ON is not. */
    private static void pinchByComes() {
        HeatWorks x = stills(90, 20, 80, -20, 70, 10, 60, -5);
        goesOn("COMES is 0", x, 0, 20, 0, 10, 5);
        pinches("COMES is 0", x, 0, 80, 70);
    }

    /** "GOES ON is 0" at a LEVEL where COMES is not. */
    private static void pinchByGoesOn() {
        HeatWorks x = new HeatWorks();
        x.still(0, false, 70, 20);
        x.plain(0, 100, 80, 1);
        x.plain(0, 70, 60, 1);
        bothLeast("GOES ON is 0", x, 0, 0, 10);
        levels("GOES ON is 0", x, 0, 90, 70, 60, 50);
        goesOn("GOES ON is 0", x, 0, 0, 0, 0, 10);
        pinches("GOES ON is 0", x, 0, 70, 60);
    }

    /** "but not the highest one if LEAST HEAT is 0" */
    private static void highestIsNoPinch() {
        HeatWorks x = stills(90, 20, 50, -5);
        bothLeast("highest", x, 0, 0, 15);
        pinches("highest, COMES is 0", x, 0);
        x = stills(90, 20, 90, -20, 50, 5);
        goesOn("highest, both are 0", x, 0, 0, 5);
        pinches("highest, both are 0: the next one is one", x, 0, 50);
    }

    private static void highestIsAPinch() {
        HeatWorks x = stills(90, -20, 50, 5);
        bothLeast("highest", x, 0, 20, 5);
        goesOn("highest", x, 0, 0, 5);
        pinches("highest, GOES ON is 0", x, 0, 90, 50);
        x = stills(90, -20, 90, 19, 50, 5);
        bothLeast("highest, by a unit", x, 0, 1, 5);
        pinches("highest, by a unit", x, 0, 90, 50);
    }

    /** "not the lowest one if LEAST COLD is 0" */
    private static void lowestIsNoPinch() {
        HeatWorks x = stills(90, 5, 50, -20);
        bothLeast("lowest", x, 0, 15, 0);
        goesOn("lowest", x, 0, 20, 0);
        pinches("lowest, GOES ON is 0", x, 0);
        x = stills(90, -5, 50, 20, 50, -20);
        goesOn("lowest, both are 0", x, 0, 0, 0);
        pinches("lowest, both are 0: the one ahead is one", x, 0, 90);
        x = stills(90, 20, 80, -20, 70, 10, 60, -10);
        bothLeast("neither end", x, 0, 0, 0);
        pinches("neither end", x, 0, 80, 70);
    }

    private static void lowestIsAPinch() {
        HeatWorks x = stills(90, -5, 50, 20);
        bothLeast("lowest", x, 0, 5, 20);
        pinches("lowest, COMES is 0", x, 0, 90, 50);
        x = stills(90, -5, 50, 20, 50, -19);
        bothLeast("lowest, by a unit", x, 0, 5, 1);
        pinches("lowest, by a unit", x, 0, 90, 50);
        x = stills(90, 6, 80, -5, 50, 20);
        pinches("COMES 1 at the lowest", x, 0);
    }

    private static void allLevelsArePinches() {
        HeatWorks x = stills(50, -5, 40, 7, 40, -7, 30, 5);
        bothLeast("all", x, 0, 5, 5);
        goesOn("all", x, 0, 0, 0, 5);
        pinches("all", x, 0, 50, 40, 30);
    }

    /** "the k-th PINCH (the highest LEVEL first)": the first, the last, and those beyond. */
    private static void pinchPlaces() {
        Bounds.Maker three = () -> stills(50, -5, 40, 7, 40, -7, 30, 5);
        int[] want = {50, 40, 30};
        for (int k = 0; k < 3; k++) {
            int it = k;
            Bounds.answers("pinch " + k, three, x -> x.pinch(0, it), want[k]);
            Bounds.answers("pinch " + k + " of all", three, x -> x.pinch(3, it), want[k]);
            Bounds.answers("pinch " + k + " of another work", three, x -> x.pinch(1, it), -1);
        }
        int[] none = {-1, 3, MIN, MAX};
        for (int k : none) {
            Bounds.answers("pinch " + k, three, x -> x.pinch(0, k), -1);
        }
    }

    private static void pinchThatLooksLikeNone() {
        HeatWorks x = new HeatWorks();
        x.gap(1);
        x.still(0, true, 0, 5);
        x.still(0, false, 10, 3);
        x.still(0, false, 0, 2);
        x.plain(0, 2, 1, 2);
        pinches("-1 is a level", x, 0, 10, 1, 0, -1);
    }

    // ---- promise 23 ----

    private static void goesOnPlaces() {
        HeatWorks x = LinesTest.four();
        goesOn("of all", x, 3, 200, 800, 825, 0, 750, 600);
        goesOn("of work 0", x, 0, 0, 750, 1600, 1000);
        goesOn("of work 1", x, 1, 1500, 0, 900);
        goesOn("of work 2", x, 2);
    }

    /** At the highest LEVEL it is LEAST HEAT (and what STILL ones do there), at the lowest LEAST COLD. */
    private static void goesOnAtTheEnds() {
        HeatWorks x = LinesTest.four();
        Check.due("highest", x.goesOn(3, 0), x.least(3));
        Check.due("lowest", x.goesOn(3, 5), x.cold(3));
        x.still(0, true, 170, 7);
        x.still(0, false, 20, 9);
        Check.due("a STILL one at the highest", x.goesOn(3, 0), x.least(3) + 7);
        Check.due("a STILL one at the lowest", x.goesOn(3, 5), x.cold(3));
        bothLeast("STILL ones at the ends", x, 3, 193, 591);
    }

    // ---- promise 24 ----

    private static void line(HeatWorks x, boolean hot, int... levelsAndHeats) {
        for (int i = 0; i + 1 < levelsAndHeats.length; i += 2) {
            int level = levelsAndHeats[i];
            Check.due((hot ? "HOT" : "COLD") + " line at " + level, x.line(0, hot, level), levelsAndHeats[i + 1]);
        }
    }

    /** "above a LEVEL": at its upper end none, a degree below one degree's, at its lower end all. */
    private static void lineOfPlain() {
        HeatWorks x = new HeatWorks();
        x.plain(0, 100, 60, 3);
        line(x, true, MAX, 0, 2001, 0, 91, 0, 90, 0, 89, 3, 51, 117, 50, 120, 49, 120, -201, 120, MIN, 120);
        line(x, false, MAX, 0, 90, 0, 50, 0, MIN, 0);
    }

    private static void lineOfCold() {
        HeatWorks x = new HeatWorks();
        x.plain(0, 20, 50, 2);
        line(x, false, MAX, 0, 51, 0, 50, 0, 49, 2, 21, 58, 20, 60, 19, 60, MIN, 60);
        line(x, true, MAX, 0, 50, 0, 20, 0, MIN, 0);
    }

    /** "(STILL ones at it, too)" */
    private static void lineOfStill() {
        HeatWorks x = new HeatWorks();
        x.still(0, true, 60, 8);
        x.still(0, false, 40, 9);
        line(x, true, MAX, 0, 51, 0, 50, 8, 49, 8, MIN, 8);
        line(x, false, MAX, 0, 41, 0, 40, 9, 39, 9, MIN, 9);
    }

    private static void lineOfBent() {
        HeatWorks x = new HeatWorks();
        Bounds.row(x, 0, 2, 10, 2, 20, 5);
        x.bent(0, true, 100, 0, 2);
        line(x, true, 91, 0, 90, 0, 89, 2, 81, 18, 80, 20, 79, 25, 61, 115, 60, 120, 59, 120, MIN, 120);
        x.bent(0, false, 30, 0, 2);
        line(x, false, 61, 0, 60, 0, 59, 5, 41, 95, 40, 100, 39, 102, 31, 118, 30, 120, 29, 120, MIN, 120);
    }

    private static void lineWithTheGap() {
        HeatWorks x = new HeatWorks();
        x.plain(0, 100, 60, 3);
        x.still(0, true, 60, 8);
        x.plain(0, 20, 50, 2);
        x.gap(1);
        line(x, true, 99, 0, 98, 3, 60, 117, 59, 128);
        line(x, false, 50, 0, 49, 2);
        x.gap(200);
        line(x, true, -100, 0, -101, 3, -139, 117, -140, 128);
        line(x, false, 50, 0, 49, 2);
    }

    /** Twelve of the largest streams: 24000000. */
    private static void mostHeat() {
        HeatWorks x = new HeatWorks();
        for (int i = 0; i < 12; i++) {
            x.plain(i % 3, 2000, 0, 1000);
        }
        bothLeast("most HOT", x, 3, 0, 24000000);
        Check.due("most HOT line", x.line(3, true, -10), 24000000);
        Check.due("most goes on", x.goesOn(3, 1), 24000000);
        x = new HeatWorks();
        for (int i = 0; i < 12; i++) {
            x.plain(i % 3, 0, 2000, 1000);
        }
        bothLeast("most COLD", x, 3, 24000000, 0);
        bothLeast("most COLD of a work", x, 2, 8000000, 0);
        Check.due("most COLD line", x.line(3, false, 0), 24000000);
    }
}
