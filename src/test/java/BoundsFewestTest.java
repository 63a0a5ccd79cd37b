/** The bounds that promise 29 and part V of the terms name: fewest. */
public final class BoundsFewestTest {
    private static final int MIN = Bounds.MIN;
    private static final int MAX = Bounds.MAX;

    public static void main(String[] args) {
        withoutStreams();
        boughtOnesAlone();
        placesOfPinches();
        wholeOnlyWithoutAPinch();
        oneStream();
        onePair();
        leastHeatOnlyAboveZero();
        leastColdOnlyAboveZero();
        leastHeatIsOnlyAbove();
        leastColdIsOnlyBelow();
        streamsThatEndAtThePinch();
        streamsThatBeginAtThePinch();
        aDegreeBeyondThePinch();
        stillsBelowIfNoneComes();
        stillsAboveIfSomeComes();
        stillsBelowIfBothAreNone();
        pinchAtTheLowestLevel();
        bentOnBothSides();
        boughtOnesDoNotCount();
        allWorksTogether();
        mostHeaps();
        oneHeapOfAll();
        mostStreams();
        heapsOfMany();
        Check.end();
    }

    private static void sides(String name, HeatWorks x, int k, int above, int below) {
        Check.due(name + ": above pinch " + k, x.fewest(k, false), above);
        Check.due(name + ": below pinch " + k, x.fewest(k, true), below);
    }

    private static HeatWorks stills(int... levelsAndHeats) {
        HeatWorks x = new HeatWorks();
        for (int i = 0; i + 1 < levelsAndHeats.length; i += 2) {
            int heat = levelsAndHeats[i + 1];
            boolean hot = heat > 0;
            x.still(i % 3, hot, hot ? levelsAndHeats[i] + 10 : levelsAndHeats[i], Math.abs(heat));
        }
        return x;
    }

    private static void withoutStreams() {
        HeatWorks x = new HeatWorks();
        sides("without streams", x, -1, 0, 0);
        sides("without streams", x, 0, -1, -1);
    }

    private static void boughtOnesAlone() {
        HeatWorks x = new HeatWorks();
        x.bought(true, 100, 5);
        x.bought(false, 0, 5);
        sides("bought ones alone", x, -1, 0, 0);
        sides("bought ones alone", x, 0, -1, -1);
    }

    /** "of the k-th PINCH of all streams; NONE without it" */
    private static void placesOfPinches() {
        Bounds.Maker three = () -> stills(50, -5, 40, 7, 40, -7, 30, 5);
        int[] above = {1, 1, 2};
        int[] below = {2, 2, 1};
        for (int k = 0; k < 3; k++) {
            int it = k;
            Bounds.answers("above pinch " + k, three, x -> x.fewest(it, false), above[k]);
            Bounds.answers("below pinch " + k, three, x -> x.fewest(it, true), below[k]);
        }
        int[] none = {-1, -2, 3, 4, MIN, MAX};
        for (int k : none) {
            Bounds.answers("above pinch " + k, three, x -> x.fewest(k, false), -1);
            Bounds.answers("below pinch " + k, three, x -> x.fewest(k, true), -1);
        }
    }

    /** "With k NONE: of the whole (with both), if there is no PINCH, else NONE." */
    private static void wholeOnlyWithoutAPinch() {
        HeatWorks x = stills(90, 20, 50, -5);
        Check.due("no pinch", x.pinch(3, 0), -1);
        sides("no pinch", x, -1, 2, 2);
        sides("no pinch", x, 0, -1, -1);
        sides("no pinch", x, -2, -1, -1);
        x = stills(90, 5, 50, -5, 40, 2);
        Check.due("a pinch", x.pinch(3, 0), 50);
        sides("a pinch", x, -1, -1, -1);
    }

    private static void oneStream() {
        sides("a HOT one and LEAST COLD", stills(50, 5), -1, 1, 1);
        sides("a COLD one and LEAST HEAT", stills(50, -5), -1, 1, 1);
    }

    private static void onePair() {
        sides("a pair", stills(50, 5, 50, -5), -1, 1, 1);
        sides("a pair and a unit of LEAST COLD", stills(50, 6, 50, -5), -1, 2, 2);
        sides("a pair and a unit of LEAST HEAT", stills(50, 5, 50, -6), -1, 2, 2);
    }

    /** "with LEAST HEAT as one more HOT one, if it is above 0" */
    private static void leastHeatOnlyAboveZero() {
        HeatWorks x = stills(90, 20, 80, -20, 70, 10);
        Check.due("LEAST HEAT", x.least(3), 0);
        sides("LEAST HEAT 0", x, 0, 1, 1);
        x = stills(90, 20, 80, -21, 70, 10);
        Check.due("LEAST HEAT", x.least(3), 1);
        sides("LEAST HEAT 1", x, 0, 2, 1);
    }

    /** "with LEAST COLD as one more COLD one likewise" */
    private static void leastColdOnlyAboveZero() {
        HeatWorks x = stills(90, -5, 80, 20, 70, -20);
        Check.due("LEAST COLD", x.cold(3), 0);
        sides("LEAST COLD 0", x, 0, 1, 1);
        x = stills(90, -5, 80, 21, 70, -20);
        Check.due("LEAST COLD", x.cold(3), 1);
        sides("LEAST COLD 1", x, 0, 1, 2);
    }

    private static void leastHeatIsOnlyAbove() {
        HeatWorks x = stills(90, -5, 80, 20, 70, -20, 60, 3);
        Check.due("LEAST HEAT", x.least(3), 5);
        sides("LEAST HEAT above alone", x, 0, 1, 2);
        sides("LEAST HEAT above alone", x, 1, 1, 2);
    }

    private static void leastColdIsOnlyBelow() {
        HeatWorks x = stills(90, 20, 80, -20, 70, 3, 60, 2);
        Check.due("LEAST COLD", x.cold(3), 5);
        sides("LEAST COLD below alone", x, 0, 1, 2);
    }

    /** "streams (that have heat on this side ..)": one that ends just at the LEVEL has none below. */
    private static void streamsThatEndAtThePinch() {
        HeatWorks x = new HeatWorks();
        x.plain(0, 100, 60, 1);
        x.plain(0, 50, 90, 1);
        x.still(0, true, 60, 3);
        Check.due("pinch", x.pinch(3, 0), 50);
        sides("both end at it", x, 0, 1, 1);
    }

    private static void streamsThatBeginAtThePinch() {
        HeatWorks x = new HeatWorks();
        x.still(0, false, 50, 3);
        x.plain(0, 60, 20, 1);
        x.plain(0, 10, 50, 1);
        Check.due("pinch", x.pinch(3, 0), 50);
        sides("both begin at it", x, 0, 1, 1);
    }

    /** A stream that goes a degree beyond the LEVEL is on both sides. */
    private static void aDegreeBeyondThePinch() {
        HeatWorks x = new HeatWorks();
        x.plain(0, 100, 60, 1);
        x.plain(0, 49, 90, 1);
        x.still(0, true, 60, 3);
        Check.due("pinch", x.pinch(3, 0), 50);
        sides("a degree below", x, 0, 1, 2);
        x = new HeatWorks();
        x.plain(0, 61, 20, 1);
        x.plain(0, 10, 50, 1);
        x.still(0, false, 50, 3);
        Check.due("pinch", x.pinch(3, 0), 50);
        sides("a degree above", x, 0, 2, 1);
    }

    /** "STILL ones at the LEVEL are below if COMES is 0 there" */
    private static void stillsBelowIfNoneComes() {
        HeatWorks x = stills(90, -5, 50, 20, 50, -12);
        Check.due("pinch", x.pinch(3, 1), 50);
        sides("none comes to 50", x, 1, 1, 2);
        sides("none goes on at 90", x, 0, 1, 2);
    }

    /** "else above" */
    private static void stillsAboveIfSomeComes() {
        HeatWorks x = stills(90, 20, 80, 5, 80, -25, 60, 3);
        Check.due("pinch", x.pinch(3, 0), 80);
        sides("20 come to 80", x, 0, 2, 1);
    }

    private static void stillsBelowIfBothAreNone() {
        HeatWorks x = stills(50, -5, 40, 7, 40, -7, 30, 5);
        sides("none comes to 40, none goes on", x, 1, 1, 2);
        x = stills(50, -5, 40, 7, 40, -4, 40, -3, 30, 5);
        sides("none comes to 40, none goes on", x, 1, 1, 3);
    }

    /** Only a STILL one, and LEAST COLD, are below. */
    private static void pinchAtTheLowestLevel() {
        HeatWorks x = stills(90, 20, 90, -20, 50, 5);
        Check.due("pinch", x.pinch(3, 0), 50);
        sides("the pair above, the rest below", x, 0, 1, 1);
        x = new HeatWorks();
        x.plain(0, 60, 50, 2);
        x.plain(0, 40, 50, 2);
        x.still(0, true, 50, 4);
        Check.due("pinch", x.pinch(3, 0), 40);
        sides("STILL at the lowest level", x, 0, 1, 1);
    }

    /** A BENT one has of each side what its SPANS have there. */
    private static void bentOnBothSides() {
        HeatWorks x = new HeatWorks();
        Bounds.row(x, 0, 2, 10, 4, 30, 1, 10, 2);
        x.bent(0, true, 100, 0, 3);
        x.still(0, false, 70, 50);
        x.still(0, true, 200, 1);
        Check.due("least heat", x.least(3), 0);
        x.still(0, false, 70, 1);
        Check.due("pinch", x.pinch(3, 0), 70);
        sides("41 and 10 above, 20 and 20 below", x, 0, 2, 1);
    }

    private static void boughtOnesDoNotCount() {
        HeatWorks x = LinesTest.four();
        sides("without bought ones", x, 0, 3, 3);
        x.bought(true, 90, 200);
        x.bought(false, 80, 600);
        sides("with bought ones", x, 0, 3, 3);
        Check.due("with bought ones: whole", x.fewest(-1, true), -1);
    }

    private static void allWorksTogether() {
        HeatWorks x = new HeatWorks();
        x.still(0, true, 100, 5);
        x.still(1, false, 50, 5);
        x.still(2, true, 100, 6);
        x.still(0, false, 50, 6);
        sides("pairs of unlike works", x, -1, 2, 2);
    }

    // ---- HEAPS ----

    /** Six pairs of unlike heats: six HEAPS. */
    private static void mostHeaps() {
        sides("six pairs", stills(50, 1, 50, -1, 50, 20, 50, -20, 50, 300, 50, -300, 50, 4000, 50, -4000, 50, 50000,
                50, -50000, 50, 600000, 50, -600000), -1, 6, 6);
        sides("six pairs, the HOT ones first", stills(50, 7, 50, 7, 50, 7, 50, 7, 50, 7, 50, 7, 50, -7, 50, -7, 50, -7,
                50, -7, 50, -7, 50, -7), -1, 6, 6);
    }

    private static void oneHeapOfAll() {
        sides("one HOT, eleven COLD", stills(50, 66, 50, -1, 50, -2, 50, -3, 50, -4, 50, -5, 50, -6, 50, -7, 50, -8,
                50, -9, 50, -10, 50, -11), -1, 11, 11);
        sides("one COLD, eleven HOT", stills(50, -66, 50, 1, 50, 2, 50, 3, 50, 4, 50, 5, 50, 6, 50, 7, 50, 8,
                50, 9, 50, 10, 50, 11), -1, 11, 11);
    }

    /** Twelve streams, and LEAST HEAT or LEAST COLD as the thirteenth. */
    private static void mostStreams() {
        sides("twelve and LEAST COLD", stills(50, 9, 50, -8, 50, 7, 50, -7, 50, 6, 50, -6, 50, 5, 50, -5, 50, 4,
                50, -4, 50, 3, 50, -3), -1, 7, 7);
        sides("twelve and LEAST HEAT", stills(50, 8, 50, -9, 50, 7, 50, -7, 50, 6, 50, -6, 50, 5, 50, -5, 50, 4,
                50, -4, 50, 3, 50, -3), -1, 7, 7);
        HeatWorks x = stills(90, -5, 50, 9, 50, -8, 50, 7, 50, -7, 50, 6, 50, -6, 50, 5, 50, -5, 50, 4, 50, -4, 40, 3);
        Check.due("pinch", x.pinch(3, 1), 50);
        sides("eleven and LEAST COLD below", x, 0, 1, 7);
    }

    /** HEAPS that pairs alone do not show: two to one, two to two, and where the greedy way fails. */
    private static void heapsOfMany() {
        sides("two to one", stills(50, 3, 50, 4, 50, -7, 50, 5, 50, -5), -1, 3, 3);
        sides("two to two", stills(50, 3, 50, 8, 50, -4, 50, -7, 50, 6, 50, -6), -1, 4, 4);
        sides("the pair is better left", stills(50, 10, 50, 6, 50, 1, 50, -4, 50, -6, 50, -7), -1, 4, 4);
        sides("LEAST COLD in a heap of two", stills(50, 10, 50, 4, 50, -4), -1, 2, 2);
        sides("LEAST COLD in a heap of three", stills(50, 10, 50, -4, 50, 3, 50, -3), -1, 3, 3);
    }
}
