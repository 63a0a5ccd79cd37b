/** Promises 25 to 27: verdict, finding, closest. */
public final class VerdictTest {
    public static void main(String[] args) {
        beforeAny();
        straight();
        orderOfMeetings();
        tooMuchHeat();
        tooClose();
        between();
        stills();
        firstThatErrs();
        thousandths();
        coldFromItsEnd();
        large();
        mostBends();
        Check.end();
    }

    private static HeatWorks two() {
        HeatWorks x = new HeatWorks();
        x.plain(0, 100, 40, 1);
        x.plain(1, 20, 50, 2);
        return x;
    }

    private static void found(HeatWorks x, long... want) {
        for (int what = 0; what < 4; what++) {
            Check.due("finding(" + what + ")", x.finding(what), want[what]);
        }
        Check.due("finding(-1)", x.finding(-1), -1);
        Check.due("finding(4)", x.finding(4), -1);
        Check.due("finding(MAX)", x.finding(Integer.MAX_VALUE), -1);
    }

    private static void beforeAny() {
        HeatWorks x = two();
        found(x, -1, -1, -1, -1);
        Check.due("verdict(4)", x.verdict(4), -1);
        Check.due("verdict(-1)", x.verdict(-1), -1);
        found(x, -1, -1, -1, -1);
        x.bought(true, 300, 2);
        x.bought(false, 0, 3);
        Check.due("verdict of an empty net", x.verdict(3), 0);
        found(x, -1, 60, 60, 0);
        Check.due("verdict(4)", x.verdict(4), -1);
        found(x, -1, 60, 60, 0);
        Check.due("closest of an empty net", x.closest(3, 0), -1);
    }

    private static void straight() {
        HeatWorks x = two();
        x.meet(0, 0, 1, 60);
        Check.due("closest", x.closest(0, 0), 20000);
        found(x, -1, -1, -1, -1);
        Check.due("verdict", x.verdict(0), 0);
        found(x, -1, 0, 0, 1);
        Check.due("closest(0, 1)", x.closest(0, 1), -1);
        Check.due("closest(0, -1)", x.closest(0, -1), -1);
        Check.due("closest(4, 0)", x.closest(4, 0), -1);
        Check.due("closest(-1, 0)", x.closest(-1, 0), -1);
        x.empty(0);
        x.meet(0, 0, 1, 25);
        Check.due("verdict", x.verdict(0), 0);
        found(x, -1, 35, 35, 1);
        x.still(2, true, 100, 9);
        Check.due("verdict", x.verdict(0), 0);
        found(x, -1, 35, 44, 1);
    }

    private static void orderOfMeetings() {
        HeatWorks x = two();
        x.plain(0, 5, 10, 4);
        x.meet(1, 0, 1, 20);
        x.meet(1, 0, 1, 20);
        x.meet(1, 0, 2, 20);
        Check.due("verdict", x.verdict(1), 0);
        Check.due("closest 0", x.closest(1, 0), 40000);
        Check.due("closest 1", x.closest(1, 1), 30000);
        Check.due("closest 2", x.closest(1, 2), 35000);
        found(x, -1, 20, 0, 3);
        x.empty(1);
        x.meet(1, 0, 2, 20);
        x.meet(1, 0, 1, 40);
        Check.due("the other way", x.closest(1, 0), 75000);
        Check.due("the other way", x.closest(1, 1), 10000);
        x.gap(11);
        Check.due("the other way", x.closest(1, 0), -1);
        Check.due("verdict", x.verdict(1), 2);
        found(x, 1, -1, -1, 2);
    }

    private static void tooMuchHeat() {
        HeatWorks x = two();
        x.meet(2, 0, 1, 61);
        Check.due("verdict", x.verdict(2), 1);
        found(x, 0, -1, -1, 1);
        Check.due("closest", x.closest(2, 0), -1);
        x.empty(2);
        x.meet(2, 0, 1, 30);
        x.plain(0, 2, 4, 50);
        x.meet(2, 0, 2, 31);
        Check.due("of the hot one", x.verdict(2), 1);
        found(x, 1, -1, -1, 2);
        x.undo();
        x.meet(2, 0, 2, 30);
        Check.due("all of it", x.verdict(2), 0);
        found(x, -1, 100, 0, 2);
        x.plain(0, 500, 400, 1);
        x.meet(2, 3, 1, 30);
        Check.due("all of the cold one", x.verdict(2), 0);
        x.meet(2, 3, 1, 1);
        Check.due("of the cold one", x.verdict(2), 1);
        found(x, 3, -1, -1, 4);
        x.undo();
        x.meet(2, 3, 1, 100000000);
        Check.due("far too much", x.verdict(2), 1);
    }

    private static void tooClose() {
        HeatWorks x = two();
        x.meet(0, 0, 1, 60);
        x.gap(20);
        Check.due("just the gap", x.verdict(0), 0);
        x.gap(21);
        Check.due("less at the colder end", x.verdict(0), 2);
        found(x, 0, -1, -1, 1);
        Check.due("closest", x.closest(0, 0), -1);
        x = new HeatWorks();
        x.plain(0, 100, 70, 2);
        x.plain(0, 20, 80, 1);
        x.meet(0, 0, 1, 60);
        x.gap(20);
        Check.due("just the gap", x.verdict(0), 0);
        x.gap(21);
        Check.due("less at the hotter end", x.verdict(0), 2);
        x = new HeatWorks();
        x.gap(1);
        x.plain(0, 50, 40, 1);
        x.plain(0, 45, 55, 1);
        x.meet(0, 0, 1, 1);
        Check.due("the cold one is hotter", x.verdict(0), 2);
        x.meet(1, 0, 1, 11);
        Check.due("1 ahead of 2", x.verdict(1), 1);
    }

    private static void between() {
        HeatWorks x = new HeatWorks();
        StreamsTest.row(x, 0, 40, 1, 10, 4);
        x.bent(0, true, 100, 0, 2);
        x.plain(0, 30, 70, 2);
        x.meet(0, 0, 1, 80);
        Check.due("closest at the bend", x.closest(0, 0), 10000);
        x.gap(11);
        Check.due("verdict at the bend", x.verdict(0), 2);
        x.empty(0);
        x.meet(0, 0, 1, 39);
        Check.due("ahead of the bend", x.closest(0, 0), -1);
        x.gap(1);
        Check.due("ahead of the bend", x.closest(0, 0), 10500);
        x.meet(0, 0, 1, 41);
        Check.due("over the bend", x.closest(0, 1), 10000);
        x = new HeatWorks();
        // from its end back the cold one falls slowly, then fast
        StreamsTest.row(x, 0, 40, 1, 10, 4);
        x.bent(0, false, 10, 0, 2);
        x.plain(0, 90, 50, 2);
        x.meet(0, 1, 0, 80);
        Check.due("closest at the cold bend", x.closest(0, 0), 20000);
        x.gap(20);
        Check.due("verdict at the cold bend", x.verdict(0), 0);
        x.gap(21);
        Check.due("verdict at the cold bend", x.verdict(0), 2);
    }

    private static void stills() {
        HeatWorks x = new HeatWorks();
        x.still(0, true, 100, 50);
        x.plain(0, 20, 70, 1);
        x.still(0, false, 60, 30);
        x.plain(0, 120, 70, 1);
        x.meet(0, 0, 1, 20);
        x.meet(0, 0, 1, 30);
        x.meet(0, 3, 2, 30);
        Check.due("closest of still and plain", x.closest(0, 0), 30000);
        Check.due("closest further on", x.closest(0, 1), 50000);
        Check.due("closest of plain and still", x.closest(0, 2), 30000);
        Check.due("verdict", x.verdict(0), 0);
        found(x, -1, 0, 20, 3);
        x.meet(1, 0, 2, 30);
        Check.due("closest of two still ones", x.closest(1, 0), 40000);
        x.meet(1, 0, 1, 21);
        Check.due("a still one's heat ends", x.verdict(1), 1);
        found(x, 1, -1, -1, 2);
        x.empty(1);
        x.meet(1, 3, 2, 31);
        Check.due("a cold still one's heat ends", x.verdict(1), 1);
    }

    private static void firstThatErrs() {
        HeatWorks x = two();
        x.still(0, false, 99, 5);
        x.meet(0, 0, 1, 10);
        x.meet(0, 0, 2, 5);
        x.meet(0, 0, 1, 1000);
        Check.due("verdict", x.verdict(0), 2);
        found(x, 1, -1, -1, 3);
        x.meet(1, 0, 1, 1000);
        x.meet(1, 0, 2, 5);
        Check.due("verdict", x.verdict(1), 1);
        found(x, 0, -1, -1, 2);
        Check.due("verdict", x.verdict(2), 0);
        found(x, -1, 65, 60, 0);
    }

    private static void thousandths() {
        HeatWorks x = new HeatWorks();
        x.plain(0, 100, 40, 1);
        x.plain(0, 20, 50, 3);
        x.meet(0, 0, 1, 10);
        Check.due("43 and a third", x.closest(0, 0), 43333);
        x.gap(43);
        Check.due("a third more than the gap", x.verdict(0), 0);
        x.gap(44);
        Check.due("less than the gap", x.verdict(0), 2);
        x = new HeatWorks();
        x.plain(0, 100, 99, 7);
        x.plain(0, 20, 40, 1000);
        x.meet(0, 0, 1, 2);
        Check.due("59 and 5012 of 7000", x.closest(0, 0), 59716);
    }

    private static void coldFromItsEnd() {
        HeatWorks x = new HeatWorks();
        StreamsTest.row(x, 0, 10, 1, 30, 2);
        x.bent(0, false, 10, 0, 2);
        x.still(0, true, 60, 100);
        x.meet(0, 1, 0, 60);
        x.meet(0, 1, 0, 5);
        Check.due("the span told last comes first", x.closest(0, 0), 10000);
        Check.due("then the first", x.closest(0, 1), 40000);
    }

    /** All SPANS of a HOT and a COLD stream, with no two bends at one place; the colder end is the closest. */
    private static void mostBends() {
        HeatWorks x = new HeatWorks();
        StreamsTest.row(x, 0, 10, 10, 10, 10, 10, 10, 10, 10, 10, 10, 10, 10, 10, 10, 10, 10);
        StreamsTest.row(x, 1, 5, 30, 10, 10, 10, 10, 10, 10, 10, 10, 10, 10, 10, 10, 5, 10);
        x.bent(0, true, 200, 0, 8);
        x.bent(0, false, 99, 1, 8);
        x.meet(0, 0, 1, 800);
        Check.due("closest", x.closest(0, 0), 21000);
        x.undo();
        x.meet(0, 0, 1, 799);
        Check.due("closest a unit ahead of the end", x.closest(0, 0), 21066);
    }

    private static void large() {
        HeatWorks x = new HeatWorks();
        x.plain(0, 2000, 1000, 1000);
        x.plain(0, 0, 1000, 999);
        x.meet(0, 0, 1, 999000);
        Check.due("closest", x.closest(0, 0), 1000000);
        Check.due("verdict", x.verdict(0), 0);
        found(x, -1, 0, 1000, 1);
    }
}
