/** The bounds that promises 25 to 27 and part III of the terms name: verdict, finding, closest. */
public final class BoundsVerdictTest {
    private static final int MIN = Bounds.MIN;
    private static final int MAX = Bounds.MAX;
    private static final int[] NO_NETS = {-1, 4, MIN, MAX};

    public static void main(String[] args) {
        noSuchNet();
        emptyNet();
        allHeatOfPlain();
        allHeatOfStill();
        allHeatOfBent();
        allHeatInManyMeetings();
        mostHeatTold();
        justTheGap();
        gapAtTheHotterEnd();
        gapAtTheColderEnd();
        gapBetween();
        gapBehindBends();
        meetingFromWithinASpan();
        forbiddenPairs();
        lessByAMillionth();
        lessByAThousandth();
        coldHotterThanHot();
        heatAheadOfGap();
        firstThatErrs();
        twentyMeetings();
        hotterEndsFirst();
        stillAllAlong();
        findingAheadOfAny();
        findingWhat();
        findingStays();
        findingOfWhatIsLeft();
        findingOfOneThatErrs();
        boughtOnesAreNotLeft();
        closestNet();
        closestPlaces();
        closestOfNetThatErrs();
        closestDownwards();
        closestFarthest();
        Check.end();
    }

    private static void found(String name, HeatWorks x, long... want) {
        for (int what = 0; what < 4; what++) {
            Check.due(name + ": finding " + what, x.finding(what), want[what]);
        }
    }

    /** The VERDICT of NET 0 when these streams meet once. */
    private static void meets(String name, Bounds.Maker maker, int heat, int verdict) {
        HeatWorks x = maker.make();
        Check.due(name + ": meet", x.meet(0, 0, 1, heat), 0);
        Check.due(name + ": verdict", x.verdict(0), verdict);
        Check.due(name + ": finding 0", x.finding(0), verdict == 0 ? -1 : 0);
        if (verdict != 0) {
            Check.due(name + ": closest", x.closest(0, 0), -1);
        }
    }

    private static HeatWorks plains(int hotFrom, int hotTo, int hotFlow, int coldFrom, int coldTo, int coldFlow) {
        HeatWorks x = new HeatWorks();
        x.plain(0, hotFrom, hotTo, hotFlow);
        x.plain(0, coldFrom, coldTo, coldFlow);
        return x;
    }

    // ---- promise 25 ----

    /** "NONE without it", and then finding() stays as it was. */
    private static void noSuchNet() {
        for (int net : NO_NETS) {
            Bounds.answers("verdict of net " + net, x -> x.verdict(net), -1);
            Bounds.answers("verdict of net " + net + " ahead of any", Bounds::fresh, x -> x.verdict(net), -1);
        }
        int[] want = {0, 1, 0, 0};
        for (int net = 0; net < 4; net++) {
            Check.due("verdict of net " + net, Bounds.some().verdict(net), want[net]);
        }
    }

    private static void emptyNet() {
        HeatWorks x = new HeatWorks();
        for (int net = 0; net < 4; net++) {
            Check.due("empty net without streams", x.verdict(net), 0);
            found("empty net without streams", x, -1, 0, 0, 0);
        }
        x.plain(0, 100, 50, 2);
        x.still(1, false, 20, 7);
        Check.due("empty net", x.verdict(3), 0);
        found("empty net: all is left", x, -1, 7, 100, 0);
    }

    /** "1 its stream has not so much heat left": all of it is fine, a unit more is not. */
    private static void allHeatOfPlain() {
        Bounds.Maker hotEnds = () -> plains(500, 470, 2, 20, 120, 3);
        meets("all of a HOT PLAIN", hotEnds, 60, 0);
        meets("a unit more than a HOT PLAIN has", hotEnds, 61, 1);
        Bounds.Maker coldEnds = () -> plains(500, 200, 2, 20, 50, 3);
        meets("all of a COLD PLAIN", coldEnds, 90, 0);
        meets("a unit more than a COLD PLAIN has", coldEnds, 91, 1);
    }

    private static void allHeatOfStill() {
        Bounds.Maker hotEnds = () -> {
            HeatWorks x = new HeatWorks();
            x.still(0, true, 300, 70);
            x.still(0, false, 50, 80);
            return x;
        };
        meets("all of a HOT STILL", hotEnds, 70, 0);
        meets("a unit more than a HOT STILL has", hotEnds, 71, 1);
        Bounds.Maker coldEnds = () -> {
            HeatWorks x = new HeatWorks();
            x.still(0, true, 300, 80);
            x.still(0, false, 50, 70);
            return x;
        };
        meets("all of a COLD STILL", coldEnds, 70, 0);
        meets("a unit more than a COLD STILL has", coldEnds, 71, 1);
    }

    private static HeatWorks bents(int hotSpans, int coldSpans) {
        HeatWorks x = new HeatWorks();
        Bounds.row(x, 0, 2, 10, 2, 20, 3, 10, 1, 5, 4, 1, 1, 2, 2, 3, 3, 4, 4);
        x.bent(0, true, 900, 0, hotSpans);
        x.bent(0, false, 100, 0, coldSpans);
        return x;
    }

    private static void allHeatOfBent() {
        meets("all of a HOT BENT", () -> bents(3, 8), 90, 0);
        meets("a unit more than a HOT BENT has", () -> bents(3, 8), 91, 1);
        meets("all of a COLD BENT", () -> bents(8, 3), 90, 0);
        meets("a unit more than a COLD BENT has", () -> bents(8, 3), 91, 1);
        meets("all of two of eight spans", () -> bents(8, 8), 140, 0);
        meets("a unit more than two of eight spans have", () -> bents(8, 8), 141, 1);
    }

    /** What earlier MEETINGS took is not left: of the HOT one, of the COLD one. */
    private static void allHeatInManyMeetings() {
        for (int more = 0; more < 2; more++) {
            HeatWorks x = plains(500, 470, 2, 20, 120, 3);
            x.plain(0, 20, 120, 3);
            x.meet(0, 0, 1, 20);
            x.meet(0, 0, 2, 20);
            x.meet(0, 0, 1, 20 + more);
            Check.due("the HOT one's last", x.verdict(0), more);
            found("the HOT one's last", x, more == 0 ? -1 : 2, more == 0 ? 540 : -1, more == 0 ? 0 : -1, 3);
            x = plains(500, 200, 2, 20, 50, 3);
            x.plain(0, 500, 200, 2);
            x.meet(0, 0, 1, 40);
            x.meet(0, 2, 1, 30);
            x.meet(0, 0, 1, 20 + more);
            Check.due("the COLD one's last", x.verdict(0), more);
            found("the COLD one's last", x, more == 0 ? -1 : 2, more == 0 ? 0 : -1, more == 0 ? 1110 : -1, 3);
        }
        HeatWorks x = plains(500, 470, 2, 20, 120, 3);
        x.meet(0, 0, 1, 60);
        x.meet(1, 0, 1, 60);
        Check.due("another net has all again", x.verdict(0), 0);
        Check.due("another net has all again", x.verdict(1), 0);
    }

    private static void mostHeatTold() {
        meets("100000000", () -> plains(2000, 1000, 1000, 0, 900, 1000), 100000000, 1);
        HeatWorks x = plains(2000, 1000, 1000, 0, 900, 1000);
        for (int i = 0; i < 20; i++) {
            x.meet(0, 0, 1, 100000000);
        }
        Check.due("20 times 100000000", x.verdict(0), 1);
        found("20 times 100000000", x, 0, -1, -1, 20);
        meets("a unit", () -> plains(2000, 1000, 1000, 0, 900, 1000), 1, 0);
    }

    /** "less than the GAP apart": just the GAP is not less. */
    private static void justTheGap() {
        int[] gaps = {1, 10, 200};
        for (int g : gaps) {
            for (int less = 0; less < 2; less++) {
                int off = less;
                meets("gap " + g + " less " + less, () -> {
                    HeatWorks x = plains(300, 250, 1, 250 - g + off, 300 - g + off, 1);
                    x.gap(g);
                    return x;
                }, 50, less == 0 ? 0 : 2);
            }
        }
        HeatWorks x = plains(300, 250, 1, 240, 290, 1);
        x.meet(0, 0, 1, 50);
        Check.due("just the gap all along", x.closest(0, 0), 10000);
    }

    /** A MEETING whose two ends are 10 and 35 degrees apart; in between more than 10. */
    private static void ends(String name, int hotFlow, int coldFlow, int coldFrom, int coldTo, int hotTo) {
        for (int g = 9; g <= 11; g++) {
            HeatWorks x = plains(100, hotTo, hotFlow, coldFrom, coldTo, coldFlow);
            x.gap(g);
            x.meet(0, 0, 1, 50);
            Check.due(name + " with gap " + g, x.verdict(0), g <= 10 ? 0 : 2);
            Check.due(name + " with gap " + g + ": closest", x.closest(0, 0), g <= 10 ? 10000 : -1);
        }
    }

    private static void gapAtTheHotterEnd() {
        ends("hotter end", 2, 1, 40, 90, 75);
    }

    private static void gapAtTheColderEnd() {
        ends("colder end", 1, 2, 40, 65, 50);
    }

    /** "and all between": at a bend of the HOT one, at a bend of the COLD one; both ends are farther apart. */
    private static void gapBetween() {
        for (int g = 10; g <= 11; g++) {
            HeatWorks x = new HeatWorks();
            Bounds.row(x, 0, 2, 40, 1, 10, 4);
            x.bent(0, true, 100, 0, 2);
            x.plain(0, 30, 70, 2);
            x.gap(g);
            x.meet(0, 0, 1, 80);
            Check.due("HOT bend with gap " + g, x.verdict(0), g == 10 ? 0 : 2);
            Check.due("HOT bend with gap " + g, x.closest(0, 0), g == 10 ? 10000 : -1);
            x = new HeatWorks();
            Bounds.row(x, 0, 2, 40, 1, 10, 4);
            x.bent(0, false, 10, 0, 2);
            x.plain(0, 80, 40, 2);
            x.gap(g);
            x.meet(0, 1, 0, 80);
            Check.due("COLD bend with gap " + g, x.verdict(0), g == 10 ? 0 : 2);
            Check.due("COLD bend with gap " + g, x.closest(0, 0), g == 10 ? 10000 : -1);
        }
    }

    /** The colder end behind all bends of two streams of eight SPANS, none of them at one place. */
    private static void gapBehindBends() {
        for (int g = 21; g <= 22; g++) {
            HeatWorks x = new HeatWorks();
            Bounds.row(x, 0, 2, 10, 10, 10, 10, 10, 10, 10, 10, 10, 10, 10, 10, 10, 10, 10, 10);
            Bounds.row(x, 1, 2, 5, 30, 10, 10, 10, 10, 10, 10, 10, 10, 10, 10, 10, 10, 5, 10);
            x.bent(0, true, 200, 0, 8);
            x.bent(0, false, 99, 1, 8);
            x.gap(g);
            x.meet(0, 0, 1, 800);
            Check.due("behind all bends with gap " + g, x.verdict(0), g == 21 ? 0 : 2);
            Check.due("behind all bends with gap " + g, x.closest(0, 0), g == 21 ? 21000 : -1);
        }
    }

    /** A MEETING that begins within a SPAN, just at a bend, just behind one, and goes over the next bend. */
    private static void meetingFromWithinASpan() {
        int[] ahead = {1, 15, 19, 20, 21, 35};
        for (int first : ahead) {
            HeatWorks x = new HeatWorks();
            Bounds.row(x, 0, 2, 20, 1, 10, 2, 30, 1);
            x.bent(0, true, 200, 0, 3);
            x.still(0, false, 100, 70);
            x.meet(0, 0, 1, first);
            x.meet(0, 0, 1, 70 - first);
            int fallen = first <= 20 ? 1000 * first : 20000 + 500 * (first - 20);
            Check.due("the first of " + first, x.closest(0, 0), 100000 - fallen);
            Check.due("the second, to the end", x.closest(0, 1), 40000);
        }
        HeatWorks x = new HeatWorks();
        Bounds.row(x, 0, 2, 40, 1, 10, 4);
        x.bent(0, true, 100, 0, 2);
        x.plain(0, 30, 70, 2);
        x.meet(0, 0, 1, 30);
        x.meet(0, 0, 1, 50);
        Check.due("ahead of the bend", x.closest(0, 0), 15000);
        Check.due("over the bend", x.closest(0, 1), 10000);
    }

    /** 1 and 2 alone are told: a FORBIDDEN pair that meets does not err. */
    private static void forbiddenPairs() {
        HeatWorks x = plains(500, 470, 2, 20, 120, 3);
        x.forbid(0, 1, true);
        x.meet(0, 0, 1, 60);
        Check.due("a FORBIDDEN pair", x.verdict(0), 0);
    }

    /** 1/1000 less 1/999 of a degree: less than the GAP by a millionth. */
    private static void lessByAMillionth() {
        HeatWorks x = plains(100, 50, 1000, 40, 90, 999);
        x.meet(0, 0, 1, 1);
        Check.due("more by a millionth", x.verdict(0), 0);
        Check.due("more by a millionth: the hotter end is the closest", x.closest(0, 0), 10000);
        x = plains(100, 50, 999, 40, 90, 1000);
        x.meet(0, 0, 1, 1);
        Check.due("less by a millionth", x.verdict(0), 2);
        x.gap(9);
        Check.due("less by a millionth, with a lesser gap", x.verdict(0), 0);
        Check.due("less by a millionth, downwards", x.closest(0, 0), 9999);
    }

    private static void lessByAThousandth() {
        HeatWorks x = new HeatWorks();
        x.plain(0, 100, 50, 1000);
        x.still(0, false, 89, 1001);
        x.meet(0, 0, 1, 1000);
        Check.due("just the gap", x.verdict(0), 0);
        Check.due("just the gap", x.closest(0, 0), 10000);
        x.undo();
        x.meet(0, 0, 1, 1001);
        Check.due("a thousandth less", x.verdict(0), 2);
        x.undo();
        x.meet(0, 0, 1, 999);
        Check.due("a thousandth more", x.closest(0, 0), 10001);
    }

    private static void coldHotterThanHot() {
        meets("the COLD one is hotter", () -> plains(50, 40, 1, 45, 55, 1), 1, 2);
        meets("both as hot", () -> plains(50, 40, 1, 40, 50, 1), 1, 2);
        meets("far hotter", () -> plains(1, 0, 1000, 1999, 2000, 1000), 1000, 2);
    }

    /** Both hold of one MEETING: 1 is told. */
    private static void heatAheadOfGap() {
        meets("too close", () -> plains(50, 40, 1, 45, 55, 1), 10, 2);
        meets("too much, and too close", () -> plains(50, 40, 1, 45, 55, 1), 11, 1);
    }

    /** "of the MEETINGS in order the first that errs" */
    private static void firstThatErrs() {
        for (int first = 0; first < 20; first++) {
            HeatWorks x = plains(500, 470, 2, 20, 120, 3);
            x.still(0, false, 495, 100);
            for (int i = 0; i < first; i++) {
                x.meet(0, 0, 1, 1);
            }
            boolean much = first % 2 == 0;
            x.meet(0, 0, much ? 1 : 2, much ? 1000 : 1);
            for (int i = first + 1; i < 20; i++) {
                x.meet(0, 0, much ? 2 : 1, much ? 1 : 1000);
            }
            Check.due("first that errs " + first, x.verdict(0), much ? 1 : 2);
            found("first that errs " + first, x, first, -1, -1, 20);
        }
    }

    /** Twenty MEETINGS that take all there is, a unit each. */
    private static void twentyMeetings() {
        for (int net = 0; net < 4; net++) {
            HeatWorks x = plains(520, 500, 1, 0, 20, 1);
            for (int i = 0; i < 20; i++) {
                x.meet(net, 0, 1, 1);
            }
            Check.due("twenty meetings", x.verdict(net), 0);
            found("twenty meetings", x, -1, 0, 0, 20);
            for (int i = 0; i < 20; i++) {
                Check.due("meeting " + i, x.closest(net, i), 500000);
            }
            Check.due("meeting 20", x.closest(net, 20), -1);
        }
    }

    /** "of a HOT one from its begin on, of a COLD one from its end back (so both from their hotter ends)" */
    private static void hotterEndsFirst() {
        HeatWorks x = new HeatWorks();
        Bounds.row(x, 0, 2, 10, 1, 30, 2);
        x.bent(0, false, 10, 0, 2);
        x.still(0, true, 60, 100);
        x.meet(0, 1, 0, 1);
        x.meet(0, 1, 0, 59);
        x.meet(0, 1, 0, 1);
        x.meet(0, 1, 0, 9);
        int[] want = {10000, 10500, 40000, 41000};
        for (int k = 0; k < 4; k++) {
            Check.due("COLD, from its end back " + k, x.closest(0, k), want[k]);
        }
        x = new HeatWorks();
        Bounds.row(x, 0, 2, 10, 1, 30, 2);
        x.bent(0, true, 100, 0, 2);
        x.still(0, false, 20, 100);
        x.meet(0, 0, 1, 1);
        x.meet(0, 0, 1, 9);
        x.meet(0, 0, 1, 1);
        x.meet(0, 0, 1, 59);
        int[] hot = {79000, 70000, 69500, 40000};
        for (int k = 0; k < 4; k++) {
            Check.due("HOT, from its begin on " + k, x.closest(0, k), hot[k]);
        }
    }

    /** "(A STILL one has its warmth all along.)": from its first unit to its last. */
    private static void stillAllAlong() {
        HeatWorks x = new HeatWorks();
        x.still(0, true, 100, 1000000);
        x.still(0, false, 90, 1000000);
        x.meet(0, 0, 1, 1);
        x.meet(0, 0, 1, 999998);
        x.meet(0, 0, 1, 1);
        Check.due("STILL and STILL", x.verdict(0), 0);
        found("STILL and STILL", x, -1, 0, 0, 3);
        for (int k = 0; k < 3; k++) {
            Check.due("STILL and STILL " + k, x.closest(0, k), 10000);
        }
        x.gap(11);
        Check.due("STILL and STILL, a wider gap", x.verdict(0), 2);
    }

    // ---- promise 26 ----

    /** "NONE ahead of any", a verdict() that was NONE included. */
    private static void findingAheadOfAny() {
        HeatWorks x = plains(500, 470, 2, 20, 120, 3);
        x.meet(0, 0, 1, 5);
        found("ahead of any", x, -1, -1, -1, -1);
        for (int net : NO_NETS) {
            x.verdict(net);
        }
        x.closest(0, 0);
        found("ahead of any that was not NONE", x, -1, -1, -1, -1);
    }

    /** "or for another what" */
    private static void findingWhat() {
        int[] none = {-1, 4, MIN, MAX};
        for (int what : none) {
            Bounds.answers("finding " + what, x -> x.finding(what), -1);
            Bounds.answers("finding " + what + " ahead of any", Bounds::fresh, x -> x.finding(what), -1);
        }
        Bounds.answers("finding 0", x -> x.finding(0), -1);
        Bounds.answers("finding 1", x -> x.finding(1), 430);
        Bounds.answers("finding 2", x -> x.finding(2), 520);
        Bounds.answers("finding 3", x -> x.finding(3), 2);
    }

    /** "Of the latest verdict() that was not NONE": acts, undoing and other questions leave it. */
    private static void findingStays() {
        HeatWorks x = plains(500, 470, 2, 20, 120, 3);
        x.meet(0, 0, 1, 61);
        x.meet(1, 0, 1, 5);
        Check.due("verdict", x.verdict(0), 1);
        found("one that errs", x, 0, -1, -1, 1);
        x.verdict(4);
        x.closest(1, 0);
        x.empty(0);
        found("it stays when the net is empty", x, 0, -1, -1, 1);
        x.undo();
        x.undo();
        x.undo();
        x.undo();
        x.undo();
        found("it stays when all is undone", x, 0, -1, -1, 1);
        x.redo();
        x.redo();
        x.redo();
        x.redo();
        Check.due("verdict of another", x.verdict(1), 0);
        found("the latest", x, -1, 295, 55, 1);
        Check.due("verdict of the first again", x.verdict(0), 1);
        found("the latest", x, 0, -1, -1, 1);
    }

    /** "what of HOT ones is left is COLD to be bought, of COLD ones HEAT": nothing, a unit, all. */
    private static void findingOfWhatIsLeft() {
        HeatWorks x = plains(500, 470, 2, 20, 40, 3);
        x.meet(0, 0, 1, 60);
        x.verdict(0);
        found("nothing is left", x, -1, 0, 0, 1);
        x.empty(0);
        x.meet(0, 0, 1, 59);
        x.verdict(0);
        found("a unit of each is left", x, -1, 1, 1, 1);
        x.empty(0);
        x.verdict(0);
        found("all is left", x, -1, 60, 60, 0);
        x = new HeatWorks();
        for (int i = 0; i < 12; i++) {
            x.plain(0, i < 6 ? 2000 : 0, i < 6 ? 0 : 2000, 1000);
        }
        x.verdict(0);
        found("the most is left", x, -1, 12000000, 12000000, 0);
    }

    /** "(both NONE if one errs)" */
    private static void findingOfOneThatErrs() {
        HeatWorks x = Bounds.some();
        Check.due("one that errs", x.verdict(1), 1);
        found("one that errs", x, 1, -1, -1, 2);
        x = plains(50, 40, 1, 45, 55, 1);
        x.meet(2, 0, 1, 1);
        Check.due("one too close", x.verdict(2), 2);
        found("one too close", x, 0, -1, -1, 1);
    }

    private static void boughtOnesAreNotLeft() {
        HeatWorks x = plains(500, 470, 2, 20, 40, 3);
        x.bought(true, 2000, 1000);
        x.bought(false, 0, 1000);
        x.verdict(0);
        found("bought ones", x, -1, 60, 60, 0);
    }

    // ---- promise 27 ----

    private static void closestNet() {
        for (int net : NO_NETS) {
            Bounds.answers("closest of net " + net, x -> x.closest(net, 0), -1);
        }
        Bounds.answers("closest of net 0", x -> x.closest(0, 0), 35000);
        Bounds.answers("closest of net 3", x -> x.closest(3, 0), 80000);
    }

    private static void closestPlaces() {
        Bounds.answers("closest of the last", x -> x.closest(0, 1), 10000);
        int[] none = {-1, 2, 20, MIN, MAX};
        for (int k : none) {
            Bounds.answers("closest " + k, x -> x.closest(0, k), -1);
        }
        Bounds.answers("closest of an empty net", x -> x.closest(2, 0), -1);
    }

    /** "NONE .. if it is not 0": of each MEETING, those ahead of the one that errs included. */
    private static void closestOfNetThatErrs() {
        Bounds.answers("closest ahead of the one that errs", x -> x.closest(1, 0), -1);
        Bounds.answers("closest of the one that errs", x -> x.closest(1, 1), -1);
        HeatWorks x = Bounds.some();
        x.meet(0, 0, 1, 100000);
        for (int k = 0; k < 4; k++) {
            Check.due("closest " + k, x.closest(0, k), -1);
        }
        x.undo();
        Check.due("closest when it is undone", x.closest(0, 1), 10000);
    }

    /** "in thousandths of a degree, downwards" */
    private static void closestDownwards() {
        int[] flows = {1, 2, 3, 6, 7, 999, 1000};
        int[] want = {79000, 79500, 79666, 79833, 79857, 79998, 79999};
        for (int i = 0; i < flows.length; i++) {
            HeatWorks x = new HeatWorks();
            x.plain(0, 100, 90, flows[i]);
            x.still(0, false, 20, 10);
            x.meet(0, 0, 1, 1);
            Check.due("a unit of flow " + flows[i], x.closest(0, 0), want[i]);
        }
        HeatWorks x = new HeatWorks();
        x.still(0, true, 100, 10);
        x.plain(0, 20, 30, 3);
        x.meet(0, 0, 1, 1);
        x.meet(0, 0, 1, 1);
        Check.due("a third behind", x.closest(0, 0), 70000);
        Check.due("70 and a third", x.closest(0, 1), 70333);
    }

    private static void closestFarthest() {
        HeatWorks x = new HeatWorks();
        x.still(0, true, 2000, 10);
        x.still(0, false, 0, 10);
        x.meet(0, 0, 1, 10);
        Check.due("farthest", x.closest(0, 0), 2000000);
        x.gap(200);
        Check.due("farthest", x.closest(0, 0), 2000000);
    }
}
