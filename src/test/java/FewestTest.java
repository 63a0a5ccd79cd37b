/** Promise 29: fewest. */
public final class FewestTest {
    public static void main(String[] args) {
        sides();
        whole();
        stillsAtThePinch();
        heaps();
        Check.end();
    }

    private static void sides() {
        HeatWorks x = LinesTest.four();
        Check.due("above", x.fewest(0, false), 3);
        Check.due("below", x.fewest(0, true), 3);
        Check.due("no second pinch", x.fewest(1, false), -1);
        Check.due("the whole has a pinch", x.fewest(-1, false), -1);
        Check.due("k -2", x.fewest(-2, true), -1);
        Check.due("k MAX", x.fewest(Integer.MAX_VALUE, true), -1);
        Check.due("k MIN", x.fewest(Integer.MIN_VALUE, false), -1);
        x.bought(true, 500, 1);
        Check.due("bought ones do not count", x.fewest(0, false), 3);
    }

    private static void whole() {
        HeatWorks x = new HeatWorks();
        Check.due("without streams", x.fewest(-1, false), 0);
        Check.due("no pinch", x.fewest(0, false), -1);
        x.still(0, true, 100, 5);
        Check.due("hot and least cold", x.fewest(-1, true), 1);
        x.still(1, false, 50, 5);
        Check.due("a pair", x.fewest(-1, false), 1);
        x.still(1, true, 100, 7);
        Check.due("a pair, and one to least cold", x.fewest(-1, false), 2);
        x.still(1, false, 50, 6);
        Check.due("a pair, and three", x.fewest(-1, false), 1 + 2);
        Check.due("k 0 without a pinch", x.fewest(0, true), -1);
        x = new HeatWorks();
        x.plain(0, 100, 40, 2);
        x.plain(0, 20, 80, 3);
        Check.due("least heat", x.least(3), 60);
        Check.due("no pinch", x.pinch(3, 0), -1);
        Check.due("three in one heap", x.fewest(-1, true), 2);
    }

    private static void stillsAtThePinch() {
        HeatWorks x = new HeatWorks();
        x.still(0, false, 70, 40);
        x.still(0, true, 60, 100);
        x.still(0, false, 50, 30);
        Check.due("pinch 70: it comes to, the still one is above", x.fewest(0, false), 1);
        Check.due("below 70: two and least cold", x.fewest(0, true), 2);
        Check.due("pinch 50: it does not come, the still ones are below", x.fewest(1, false), 1);
        Check.due("below 50", x.fewest(1, true), 2);
        x = new HeatWorks();
        x.still(0, true, 100, 9);
        x.still(0, true, 90, 20);
        x.still(0, false, 80, 29);
        x.still(0, false, 60, 4);
        x.still(0, true, 70, 4);
        x.still(0, true, 50, 6);
        Check.due("pinches", x.pinch(3, 0), 80);
        Check.due("above 80 with both at it", x.fewest(0, false), 2);
        Check.due("below 80", x.fewest(0, true), 2);
        Check.due("pinches", x.pinch(3, 1), 60);
        Check.due("above 60, what comes is none", x.fewest(1, false), 2);
        Check.due("below 60", x.fewest(1, true), 2);
        Check.due("pinches", x.pinch(3, 2), 40);
        Check.due("above 40", x.fewest(2, false), 3);
        Check.due("below 40", x.fewest(2, true), 1);
    }

    private static void heaps() {
        HeatWorks x = new HeatWorks();
        int[] hot = {5, 7, 12, 1, 4, 3};
        int[] cold = {12, 12, 1, 3, 4, 2};
        for (int i = 0; i < 6; i++) {
            x.still(0, true, 100, hot[i]);
            x.still(0, false, 50, cold[i]);
        }
        // least heat is 2: {5 7 | 12} {12 | 12} {1 | 1} {4 | 4} {3 | 3} {2 bought | 2}
        Check.due("least heat", x.least(3), 2);
        Check.due("pinch", x.pinch(3, 0), -1);
        Check.due("thirteen in six heaps", x.fewest(-1, false), 13 - 6);
        x = new HeatWorks();
        for (int i = 0; i < 6; i++) {
            x.still(0, true, 100, 6);
            x.still(0, false, i == 0 ? 90 : 50, i < 5 ? 7 : 1);
        }
        Check.due("least heat", x.least(3), 0);
        Check.due("one heap of twelve", x.fewest(-1, false), 11);
    }
}
