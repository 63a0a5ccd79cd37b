/** Promises 11 to 13 and 32: forbid, meet, empty, count. */
public final class PairsAndNetsTest {
    private static HeatWorks four() {
        HeatWorks x = new HeatWorks();
        x.plain(0, 100, 40, 3);
        x.plain(1, 20, 80, 2);
        x.bought(true, 200, 5);
        x.bought(false, 0, 4);
        return x;
    }

    public static void main(String[] args) {
        forbidding();
        meeting();
        emptying();
        counting();
        Check.end();
    }

    private static void forbidding() {
        HeatWorks x = four();
        Check.due("hot, cold", x.forbid(0, 1, true), 0);
        Check.due("hot, bought cold", x.forbid(0, 3, true), 0);
        Check.due("bought heat, cold", x.forbid(2, 1, true), 0);
        Check.due("both bought", x.forbid(2, 3, true), 0);
        Check.due("pairs", x.count(4), 4);
        Check.due("again", x.forbid(0, 1, true), 0);
        Check.due("pairs", x.count(4), 4);
        Check.due("no more", x.forbid(0, 1, false), 0);
        Check.due("pairs", x.count(4), 3);
        Check.due("no more again", x.forbid(0, 1, false), 0);
        Check.due("pairs", x.count(4), 3);
        Check.due("acts that changed nothing count", x.count(2), 11);
        Check.due("no stream 4", x.forbid(4, 1, true), 1);
        Check.due("no stream -1", x.forbid(0, -1, true), 1);
        Check.due("1 ahead of 6", x.forbid(1, 12, true), 1);
        Check.due("cold first", x.forbid(1, 3, true), 6);
        Check.due("hot second", x.forbid(0, 2, true), 6);
        Check.due("the same", x.forbid(0, 0, true), 6);
        Check.due("bought cold first", x.forbid(3, 1, false), 6);
        Check.due("acts", x.count(2), 11);
    }

    private static void meeting() {
        HeatWorks x = four();
        Check.due("net 4", x.meet(4, 0, 1, 1), 1);
        Check.due("net -1", x.meet(-1, 0, 1, 1), 1);
        Check.due("no hot", x.meet(0, 4, 1, 0), 1);
        Check.due("no cold", x.meet(0, 0, -1, 1), 1);
        Check.due("heat 0", x.meet(0, 0, 1, 0), 3);
        Check.due("heat 100000001", x.meet(0, 0, 1, 100000001), 3);
        Check.due("3 ahead of 6", x.meet(0, 1, 0, 0), 3);
        Check.due("sides", x.meet(0, 1, 0, 1), 6);
        Check.due("hot and hot", x.meet(0, 0, 0, 1), 6);
        Check.due("cold and cold", x.meet(0, 1, 1, 1), 6);
        Check.due("bought heat", x.meet(0, 2, 1, 1), 6);
        Check.due("bought cold", x.meet(0, 0, 3, 1), 6);
        Check.due("none came", x.count(5), 0);
        Check.due("heat 1", x.meet(3, 0, 1, 1), 0);
        Check.due("heat 100000000", x.meet(3, 0, 1, 100000000), 0);
        Check.due("two", x.count(8), 2);
        for (int i = 0; i < 20; i++) {
            Check.due("meeting " + i, x.meet(1, 0, 1, 1), 0);
        }
        Check.due("meeting 20", x.meet(1, 0, 1, 1), 2);
        Check.due("2 ahead of 3", x.meet(1, 0, 1, 0), 2);
        Check.due("2 ahead of 6", x.meet(1, 1, 0, 1), 2);
        Check.due("1 ahead of 2", x.meet(1, 9, 0, 1), 1);
        Check.due("another net", x.meet(2, 0, 1, 1), 0);
        Check.due("twenty", x.count(6), 20);
    }

    private static void emptying() {
        HeatWorks x = four();
        x.meet(0, 0, 1, 5);
        x.meet(1, 0, 1, 5);
        Check.due("empty(0)", x.empty(0), 0);
        Check.due("count(5)", x.count(5), 0);
        Check.due("count(6)", x.count(6), 1);
        Check.due("empty(0) again", x.empty(0), 0);
        Check.due("empty(4)", x.empty(4), 1);
        Check.due("empty(-1)", x.empty(-1), 1);
        Check.due("acts", x.count(2), 8);
        x.undo();
        x.undo();
        Check.due("back", x.count(5), 1);
        Check.due("and it works", x.closest(0, 0), 20000);
    }

    private static void counting() {
        HeatWorks x = four();
        x.gap(7);
        x.forbid(0, 1, true);
        x.meet(0, 0, 1, 5);
        x.meet(2, 0, 1, 5);
        x.meet(2, 0, 1, 5);
        x.undo();
        int[] want = {4, 7, 8, 1, 1, 1, 0, 1, 0};
        for (int what = 0; what < want.length; what++) {
            Check.due("count(" + what + ")", x.count(what), want[what]);
        }
        Check.due("count(-1)", x.count(-1), -1);
        Check.due("count(9)", x.count(9), -1);
        Check.due("count(MAX)", x.count(Integer.MAX_VALUE), -1);
        Check.due("count(MIN)", x.count(Integer.MIN_VALUE), -1);
    }
}
