/** The bounds that promises 11 to 13 and 32 name: forbid, meet, empty, count. */
public final class BoundsPairsAndNetsTest {
    private static final int MIN = Bounds.MIN;
    private static final int MAX = Bounds.MAX;
    private static final int[] NO_NETS = {-1, 4, MIN, MAX};

    public static void main(String[] args) {
        forbidStreams();
        forbidSides();
        forbidLeastNumber();
        forbidAgain();
        forbidAllPairs();
        meetNet();
        meetStreams();
        meetTwenty();
        meetHeat();
        meetSides();
        meetLeastNumber();
        meetOfOnePair();
        emptyNet();
        emptyWhatIsEmpty();
        emptyAFullOne();
        emptyThenMeet();
        countWhat();
        countEmptyAndFull();
        countActs();
        Check.end();
    }

    // ---- promise 11 ----

    /** "STATUS 1 (a STREAM)": eight streams, then twelve. */
    private static void forbidStreams() {
        Bounds.accepted("forbid the first and a COLD one", x -> x.forbid(0, 1, true));
        Bounds.accepted("forbid a HOT one and the last", x -> x.forbid(0, 7, true));
        Bounds.accepted("forbid the last of twelve", Bounds::full, x -> x.forbid(10, 11, true));
        Bounds.refused("forbid: no first", x -> x.forbid(8, 1, true), 1);
        Bounds.refused("forbid: no second", x -> x.forbid(0, 8, true), 1);
        int[] none = {-1, 12, MIN, MAX};
        for (int i : none) {
            Bounds.refused("forbid " + i + " first", Bounds::full, x -> x.forbid(i, 5, true), 1);
            Bounds.refused("forbid " + i + " second", Bounds::full, x -> x.forbid(0, i, true), 1);
            Bounds.refused("forbid no more " + i, Bounds::full, x -> x.forbid(i, 5, false), 1);
            Bounds.refused("forbid no more with " + i, Bounds::full, x -> x.forbid(0, i, false), 1);
        }
        Bounds.refused("forbid without streams", Bounds::fresh, x -> x.forbid(0, 0, true), 1);
    }

    /** "6 (the first gives none, the second takes none)": all pairs of eight kinds and sides. */
    private static void forbidSides() {
        for (int h = 0; h < 8; h++) {
            for (int c = 0; c < 8; c++) {
                int first = h;
                int second = c;
                if (h % 2 == 0 && c % 2 == 1) {
                    Bounds.accepted("forbid " + h + ", " + c, x -> x.forbid(first, second, true));
                    Bounds.accepted("forbid no more " + h + ", " + c, x -> x.forbid(first, second, false));
                } else {
                    Bounds.refused("forbid " + h + ", " + c, x -> x.forbid(first, second, true), 6);
                    Bounds.refused("forbid no more " + h + ", " + c, x -> x.forbid(first, second, false), 6);
                }
            }
        }
    }

    private static void forbidLeastNumber() {
        Bounds.refused("forbid: 1 (second) ahead of 6", x -> x.forbid(1, 8, true), 1);
        Bounds.refused("forbid: 1 (first) ahead of 6", x -> x.forbid(8, 0, true), 1);
    }

    /** What is FORBIDDEN is so once; "or no more" of one that is not is an act as well. */
    private static void forbidAgain() {
        HeatWorks x = Bounds.some();
        Check.due("pairs", x.count(4), 2);
        Check.due("again", x.forbid(0, 5, true), 0);
        Check.due("pairs", x.count(4), 2);
        Check.due("no more", x.forbid(0, 5, false), 0);
        Check.due("pairs", x.count(4), 1);
        Check.due("no more, again", x.forbid(0, 5, false), 0);
        Check.due("pairs", x.count(4), 1);
        Check.due("the last one", x.forbid(6, 3, false), 0);
        Check.due("pairs", x.count(4), 0);
        for (int n = 0; n < 4; n++) {
            x.undo();
        }
        Check.due("all four were acts", x.count(4), 2);
    }

    /** Six of each side: 36 pairs, the most there can be. */
    private static void forbidAllPairs() {
        HeatWorks x = new HeatWorks();
        for (int i = 0; i < 12; i++) {
            x.still(0, i % 2 == 1, i % 2 == 1 ? 100 : 50, 5);
        }
        int pairs = 0;
        for (int h = 1; h < 12; h += 2) {
            for (int c = 0; c < 12; c += 2) {
                Check.due("forbid " + h + ", " + c, x.forbid(h, c, true), 0);
                pairs++;
                Check.due("pairs", x.count(4), pairs);
            }
        }
        Check.due("all pairs", pairs, 36);
        Check.due("nothing may go", x.price(), -1);
        for (int c = 0; c < 12; c += 2) {
            x.forbid(11 - c, c, false);
        }
        Check.due("pairs", x.count(4), 30);
        Check.due("each to its own", x.price(), 0);
    }

    // ---- promise 12 ----

    /** "NETS 0 to 3", "STATUS 1 (NET ..)" */
    private static void meetNet() {
        for (int net = 0; net < 4; net++) {
            int it = net;
            Bounds.accepted("meet in net " + net, x -> x.meet(it, 0, 1, 5));
        }
        for (int net : NO_NETS) {
            Bounds.refused("meet in net " + net, x -> x.meet(net, 0, 1, 5), 1);
        }
    }

    private static void meetStreams() {
        Bounds.refused("meet: no first", x -> x.meet(0, 8, 1, 5), 1);
        Bounds.refused("meet: no second", x -> x.meet(0, 0, 8, 5), 1);
        int[] none = {-1, 12, MIN, MAX};
        for (int i : none) {
            Bounds.refused("meet " + i + " first", x -> x.meet(0, i, 1, 5), 1);
            Bounds.refused("meet " + i + " second", x -> x.meet(0, 0, i, 5), 1);
        }
        Bounds.accepted("meet: stream 11", Bounds::twelveAndARow, x -> x.meet(0, 0, 11, 5));
        Bounds.accepted("meet: stream 11", Bounds::twelveAndARow, x -> x.meet(0, 10, 1, 5));
    }

    /** "MEETINGS, 20 at most each", "2 (20)" */
    private static void meetTwenty() {
        for (int net = 0; net < 4; net++) {
            HeatWorks x = Bounds.twelveAndARow();
            for (int i = 0; i < 20; i++) {
                Check.due("meeting " + i + " of net " + net, x.meet(net, 0, 1, 1), 0);
                Check.due("meetings", x.count(5 + net), i + 1);
            }
            Check.due("meeting 20 of net " + net, x.meet(net, 0, 1, 1), 2);
            Check.due("meetings", x.count(5 + net), 20);
            Check.due("room in another net", x.meet((net + 1) % 4, 0, 1, 1), 0);
            x.undo();
            x.undo();
            Check.due("room again", x.meet(net, 0, 1, 1), 0);
            Check.due("no room again", x.meet(net, 0, 1, 1), 2);
            int it = net;
            Bounds.refused("a 21st meeting", Bounds::full, y -> y.meet(it, 0, 5, 1), 2);
        }
    }

    /** "3 (heat below 1, or above 100000000)" */
    private static void meetHeat() {
        Bounds.accepted("meet: heat 1", x -> x.meet(0, 0, 1, 1));
        Bounds.accepted("meet: heat 100000000", x -> x.meet(0, 0, 1, 100000000));
        int[] none = {0, 100000001, -1, MIN, MAX};
        for (int heat : none) {
            Bounds.refused("meet: heat " + heat, x -> x.meet(0, 0, 1, heat), 3);
        }
    }

    /** "6 a STREAM is of another KIND (or side) than wanted": all pairs of eight kinds and sides. */
    private static void meetSides() {
        for (int h = 0; h < 8; h++) {
            for (int c = 0; c < 8; c++) {
                int first = h;
                int second = c;
                if (h % 2 == 0 && h < 6 && c % 2 == 1 && c < 6) {
                    Bounds.accepted("meet " + h + ", " + c, x -> x.meet(2, first, second, 5));
                } else {
                    Bounds.refused("meet " + h + ", " + c, x -> x.meet(2, first, second, 5), 6);
                }
            }
        }
    }

    private static void meetLeastNumber() {
        Bounds.refused("meet: 1 (NET) ahead of 3", x -> x.meet(4, 0, 1, 0), 1);
        Bounds.refused("meet: 1 (NET) ahead of 6", x -> x.meet(-1, 1, 0, 1), 1);
        Bounds.refused("meet: 1 (first) ahead of 3", x -> x.meet(0, 8, 1, 0), 1);
        Bounds.refused("meet: 1 (second) ahead of 6", x -> x.meet(0, 1, 8, 1), 1);
        Bounds.refused("meet: 1 (first) ahead of 2", Bounds::full, x -> x.meet(0, 12, 5, 1), 1);
        Bounds.refused("meet: 1 (second) ahead of 2", Bounds::full, x -> x.meet(0, 0, 12, 1), 1);
        Bounds.refused("meet: 2 ahead of 3", Bounds::full, x -> x.meet(0, 0, 5, 0), 2);
        Bounds.refused("meet: 2 ahead of 6", Bounds::full, x -> x.meet(0, 5, 0, 1), 2);
        Bounds.refused("meet: 3 ahead of 6", x -> x.meet(0, 1, 0, 0), 3);
        Bounds.refused("meet: 3 ahead of 6 (BOUGHT)", x -> x.meet(0, 6, 7, 100000001), 3);
    }

    /** A pair may meet again, and a FORBIDDEN one may be told, too: neither is a ground to refuse. */
    private static void meetOfOnePair() {
        Bounds.accepted("meet again", x -> x.meet(0, 0, 1, 50));
        Bounds.accepted("meet of a FORBIDDEN pair", x -> x.meet(0, 0, 5, 1));
        Bounds.accepted("meet with more than the stream has", x -> x.meet(0, 2, 3, 31));
    }

    // ---- promise 13 ----

    private static void emptyNet() {
        for (int net = 0; net < 4; net++) {
            int it = net;
            Bounds.accepted("empty net " + net, x -> x.empty(it));
        }
        for (int net : NO_NETS) {
            Bounds.refused("empty net " + net, x -> x.empty(net), 1);
        }
    }

    private static void emptyWhatIsEmpty() {
        Bounds.accepted("empty what is empty", Bounds::fresh, x -> x.empty(0));
        HeatWorks x = Bounds.some();
        Check.due("empty", x.empty(2), 0);
        Check.due("redo is over", x.count(3), 0);
        Check.due("empty again", x.empty(2), 0);
        Check.due("no meetings", x.count(7), 0);
    }

    /** A full NET is empty again, the others stay full; then twenty more come. */
    private static void emptyAFullOne() {
        for (int net = 0; net < 4; net++) {
            HeatWorks x = Bounds.full();
            x.empty(net);
            for (int other = 0; other < 4; other++) {
                Check.due("net " + other, x.count(5 + other), other == net ? 0 : 20);
            }
            Check.due("no first meeting", x.closest(net, 0), -1);
            Check.due("verdict of an empty net", x.verdict(net), 0);
            Check.due("its meetings", x.finding(3), 0);
            for (int i = 0; i < 20; i++) {
                Check.due("room again", x.meet(net, 0, 5, 1), 0);
            }
            Check.due("no room again", x.meet(net, 0, 5, 1), 2);
        }
    }

    /** What comes to a NET behind empty() is as told, whatever stood there. */
    private static void emptyThenMeet() {
        HeatWorks x = Bounds.some();
        x.empty(0);
        x.meet(0, 4, 5, 20);
        Check.due("the only meeting", x.count(5), 1);
        Check.due("HOT 150 down by 4, COLD 95 down by 3 and a third", x.closest(0, 0), 54333);
        Check.due("no second meeting", x.closest(0, 1), -1);
        x.empty(0);
        x.meet(0, 2, 3, 30);
        Check.due("90 and 80", x.closest(0, 0), 10000);
    }

    // ---- promise 32 ----

    /** "NONE for another what" */
    private static void countWhat() {
        int[] none = {-1, 9, MIN, MAX};
        for (int what : none) {
            Bounds.answers("count " + what, x -> x.count(what), -1);
            Bounds.answers("count " + what, Bounds::fresh, x -> x.count(what), -1);
        }
        int[] want = {8, 7, 35, 3, 2, 2, 2, 0, 1};
        for (int what = 0; what < want.length; what++) {
            int it = what;
            Bounds.answers("count " + what, x -> x.count(it), want[what]);
        }
    }

    private static void countEmptyAndFull() {
        int[] empty = {0, 10, 0, 0, 0, 0, 0, 0, 0};
        int[] full = {12, 10, 116, 1, 0, 20, 20, 20, 20};
        for (int what = 0; what < 9; what++) {
            int it = what;
            Bounds.answers("count " + what + " of a new one", Bounds::fresh, x -> x.count(it), empty[what]);
            Bounds.answers("count " + what + " of a full one", Bounds::full, x -> x.count(it), full[what]);
        }
    }

    /** Acts that can be undone, redone: at the first, at the last, one behind. */
    private static void countActs() {
        HeatWorks x = new HeatWorks();
        for (int n = 1; n <= 3; n++) {
            x.gap(n);
            Check.due("to be undone", x.count(2), n);
            Check.due("to be redone", x.count(3), 0);
        }
        for (int n = 2; n >= -1; n--) {
            Check.due("undo", x.undo(), n < 0 ? 7 : 0);
            Check.due("to be undone", x.count(2), Math.max(n, 0));
            Check.due("to be redone", x.count(3), 3 - Math.max(n, 0));
        }
        for (int n = 1; n <= 4; n++) {
            Check.due("redo", x.redo(), n > 3 ? 7 : 0);
            Check.due("to be undone", x.count(2), Math.min(n, 3));
            Check.due("to be redone", x.count(3), 3 - Math.min(n, 3));
        }
    }
}
