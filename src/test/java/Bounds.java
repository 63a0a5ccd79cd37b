/**
 * What the tests of bounds have in common. Each call is looked at on an object of its own, for an object is
 * used for 512 calls at most.
 */
final class Bounds {
    static final int MIN = Integer.MIN_VALUE;
    static final int MAX = Integer.MAX_VALUE;
    static final int CALLS_OF_SOME = 42;

    interface Call {
        long on(HeatWorks x);
    }

    interface Maker {
        HeatWorks make();
    }

    private Bounds() {
    }

    static HeatWorks fresh() {
        return new HeatWorks();
    }

    /**
     * Streams 0 PLAIN HOT, 1 PLAIN COLD, 2 STILL HOT, 3 STILL COLD, 4 BENT HOT, 5 BENT COLD, 6 BOUGHT HEAT,
     * 7 BOUGHT COLD; SHEETS 0 of bytes, 1 of shorts, 2 of ints, 3 an empty one of ints, 4 to 7 MISSING;
     * NET 0 holds, NET 1 errs, NET 2 is empty; two pairs are FORBIDDEN; three acts wait to be redone.
     */
    static HeatWorks some() {
        HeatWorks x = new HeatWorks();
        x.gap(7);
        row(x, 0, 0, 30, 5, 20, 3);
        row(x, 1, 1, 40, 2, 25, 6, 9);
        row(x, 2, 2, 11, 12, 13, 14, 15, 16);
        x.sheet(3, 2, 0);
        x.plain(0, 170, 60, 3);
        x.plain(1, 20, 135, 2);
        x.still(0, true, 90, 40);
        x.still(2, false, 80, 30);
        x.bent(2, true, 150, 0, 2);
        x.bent(1, false, 30, 1, 2);
        x.bought(true, 300, 5);
        x.bought(false, 0, 4);
        x.forbid(0, 5, true);
        x.forbid(6, 3, true);
        x.meet(0, 0, 1, 50);
        x.meet(0, 2, 3, 10);
        x.meet(1, 4, 5, 20);
        x.meet(1, 4, 5, 100000);
        x.meet(3, 0, 3, 30);
        x.gap(9);
        x.tear(2);
        x.empty(0);
        x.undo();
        x.undo();
        x.undo();
        x.verdict(0);
        return x;
    }

    /** Twelve streams (0 to 4 HOT, 5 to 9 COLD, then BOUGHT HEAT and COLD), eight SHEETS, four NETS of twenty. */
    static HeatWorks full() {
        HeatWorks x = new HeatWorks();
        for (int k = 0; k < 8; k++) {
            x.sheet(k, k % 3, 16);
            x.cell(k, k, k + 1);
            x.cell(k, k + 1, k + 2);
        }
        for (int i = 0; i < 5; i++) {
            x.plain(i % 3, 300 + i, 200 - i, 2 + i);
        }
        for (int i = 0; i < 5; i++) {
            x.plain(i % 3, 50 + i, 180 - i, 2 + i);
        }
        x.bought(true, 500, 3);
        x.bought(false, 0, 2);
        for (int net = 0; net < 4; net++) {
            for (int i = 0; i < 20; i++) {
                x.meet(net, i % 5, 5 + i % 5, 1 + net);
            }
        }
        x.gap(20);
        x.undo();
        x.verdict(3);
        return x;
    }

    static HeatWorks twelveAndNothingUndone() {
        HeatWorks x = new HeatWorks();
        row(x, 0, 2, 5, 5);
        for (int i = 0; i < 12; i++) {
            x.still(i % 3, i % 2 == 0, 100 - i, 1 + i);
        }
        return x;
    }

    /** Twelve STILL streams, HOT and COLD in turn, and SHEET 0 with the numbers of one SPAN. */
    static HeatWorks twelveAndARow() {
        HeatWorks x = twelveAndNothingUndone();
        x.gap(3);
        x.undo();
        return x;
    }

    /** A SHEET of a form with these numbers. */
    static void row(HeatWorks x, int k, int form, int... numbers) {
        x.sheet(k, form, numbers.length);
        for (int i = 0; i < numbers.length; i++) {
            x.cell(k, i, numbers[i]);
        }
    }

    /** The call is refused with this STATUS, and nothing changes. */
    static void refused(String sentence, Maker maker, Call call, int status) {
        String before = Seen.all(maker.make());
        HeatWorks x = maker.make();
        Check.due(sentence, call.on(x), status);
        Check.holds(sentence + ": nothing changes", Seen.all(x).equals(before));
    }

    static void refused(String sentence, Call call, int status) {
        refused(sentence, Bounds::some, call, status);
    }

    /** The call is an act: it answers 0, it is one more to be undone, none is to be redone, and undone it is gone. */
    static void accepted(String sentence, Maker maker, Call call) {
        HeatWorks x = maker.make();
        int acts = x.count(2);
        String before = Seen.state(x);
        x = maker.make();
        Check.due(sentence, call.on(x), 0);
        Check.due(sentence + ": acts that can be undone", x.count(2), acts + 1);
        Check.due(sentence + ": acts that can be redone", x.count(3), 0);
        Check.due(sentence + ": undo", x.undo(), 0);
        Check.holds(sentence + ": as if it had not been", Seen.state(x).equals(before));
    }

    static void accepted(String sentence, Call call) {
        accepted(sentence, Bounds::some, call);
    }

    /** The call answers this, and nothing changes. */
    static void answers(String sentence, Call call, long want) {
        answers(sentence, Bounds::some, call, want);
    }

    static void answers(String sentence, Maker maker, Call call, long want) {
        String before = Seen.all(maker.make());
        HeatWorks x = maker.make();
        Check.due(sentence, call.on(x), want);
        Check.holds(sentence + ": a question changes nothing", Seen.all(x).equals(before));
    }
}
