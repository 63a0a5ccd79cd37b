/** The bounds that promises 14 and 15 name: undo, redo; and the first section's 512 calls. */
public final class BoundsUndoTest {
    private static final int KEPT = 200;
    private static final int CALLS = 512;

    public static void main(String[] args) {
        undoOfNothing();
        redoOfNothing();
        undoOfTheFirst();
        everyKindOfAct();
        refusedOnesAreNoActs();
        actsThatChangeNothing();
        redoUntilAnotherAct();
        everyActEndsRedo();
        refusedOnesKeepRedo();
        questionsKeepRedo();
        twoHundredKept();
        twoHundredAndOne();
        ringBeginsAgain();
        ringBeginsAgainAndAgain();
        anotherActWhenFull();
        redoOfMany();
        lastOf512Calls();
        beyond512Calls();
        Check.end();
    }

    /** "STATUS 7", with nothing done, and with all undone. */
    private static void undoOfNothing() {
        Bounds.refused("undo of nothing", Bounds::fresh, HeatWorks::undo, 7);
        Bounds.refused("undo when all is undone", BoundsUndoTest::allUndone, HeatWorks::undo, 7);
    }

    private static HeatWorks allUndone() {
        HeatWorks x = new HeatWorks();
        x.gap(5);
        x.still(0, true, 50, 5);
        x.undo();
        x.undo();
        return x;
    }

    /** "STATUS 7 (none, ..)": with nothing done, nothing undone, all redone. */
    private static void redoOfNothing() {
        Bounds.refused("redo of nothing", Bounds::fresh, HeatWorks::redo, 7);
        Bounds.refused("redo with nothing undone", Bounds::twelveAndNothingUndone, HeatWorks::redo, 7);
        Bounds.refused("redo when all is redone", BoundsUndoTest::allRedone, HeatWorks::redo, 7);
    }

    private static HeatWorks allRedone() {
        HeatWorks x = allUndone();
        x.redo();
        x.redo();
        return x;
    }

    private static void undoOfTheFirst() {
        String empty = Seen.state(new HeatWorks());
        HeatWorks x = new HeatWorks();
        x.gap(5);
        Check.due("undo of the first act", x.undo(), 0);
        Check.holds("as a new one", Seen.state(x).equals(empty));
    }

    /** Each kind of act, on a works that has something of all; each changes something there. */
    private static final Bounds.Call[] ACTS = {
        x -> x.sheet(0, 2, 9), x -> x.cell(0, 0, 77), x -> x.tear(1), x -> x.copy(2, 0, 2, 3, 2),
        x -> x.plain(0, 99, 44, 3), x -> x.still(1, false, 66, 9), x -> x.bent(0, true, 140, 0, 2),
        x -> x.bought(true, 200, 1), x -> x.bought(false, 5, 1), x -> x.gap(33), x -> x.forbid(0, 1, true),
        x -> x.forbid(0, 5, false), x -> x.meet(0, 0, 1, 5), x -> x.empty(0)};

    private static void everyKindOfAct() {
        String before = Seen.state(Bounds.some());
        for (int i = 0; i < ACTS.length; i++) {
            HeatWorks done = Bounds.some();
            Check.due("act " + i, ACTS[i].on(done), 0);
            String behind = Seen.state(done);
            Check.holds("act " + i + " changes something", !behind.equals(before));
            HeatWorks undone = Bounds.some();
            ACTS[i].on(undone);
            Check.due("undo of act " + i, undone.undo(), 0);
            Check.holds("act " + i + " is as if it had not been", Seen.state(undone).equals(before));
            HeatWorks redone = Bounds.some();
            ACTS[i].on(redone);
            redone.undo();
            Check.due("redo of act " + i, redone.redo(), 0);
            Check.holds("act " + i + " is done again", Seen.state(redone).equals(behind));
        }
    }

    /** "The latest act of those above that was 0" */
    private static void refusedOnesAreNoActs() {
        HeatWorks x = new HeatWorks();
        x.gap(5);
        Check.due("refused", x.gap(0), 3);
        Check.due("refused", x.tear(8), 1);
        Check.due("refused", x.cell(0, 0, 0), 4);
        Check.due("one act", x.count(2), 1);
        Check.due("undo", x.undo(), 0);
        Check.due("the gap ahead of it", x.count(1), 10);
        Check.due("undo", x.undo(), 7);
    }

    /** "acts are sheet() to empty(), whatever they changed" */
    private static void actsThatChangeNothing() {
        Bounds.Call[] idle = {x -> x.sheet(3, 2, 0), x -> x.cell(0, 0, 30), x -> x.tear(5), x -> x.copy(2, 0, 2, 0, 6),
            x -> x.copy(2, 0, 2, 0, 0), x -> x.gap(7), x -> x.forbid(0, 5, true), x -> x.forbid(0, 1, false),
            x -> x.empty(2)};
        for (int i = 0; i < idle.length; i++) {
            Bounds.accepted("idle act " + i, idle[i]);
        }
        HeatWorks x = Bounds.some();
        x.cell(1, 0, 41);
        for (Bounds.Call call : idle) {
            call.on(x);
        }
        for (int i = 0; i < idle.length; i++) {
            x.undo();
            Check.due("the act ahead of idle ones stays", x.number(1, 0), 41);
        }
        x.undo();
        Check.due("then it is undone", x.number(1, 0), 40);
    }

    /** "7 (.. or another act came since)" */
    private static void redoUntilAnotherAct() {
        HeatWorks x = new HeatWorks();
        x.gap(1);
        x.gap(2);
        x.gap(3);
        x.undo();
        x.undo();
        Check.due("to be redone", x.count(3), 2);
        x.gap(4);
        Check.due("to be redone", x.count(3), 0);
        Check.due("redo", x.redo(), 7);
        Check.due("the gap stays", x.count(1), 4);
        Check.due("undo", x.undo(), 0);
        Check.due("the act ahead of the undone ones", x.count(1), 1);
        Check.due("redo", x.redo(), 0);
        Check.due("the other act, not those undone", x.count(1), 4);
        Check.due("redo", x.redo(), 7);
    }

    private static void everyActEndsRedo() {
        for (int i = 0; i < ACTS.length; i++) {
            HeatWorks x = Bounds.some();
            Check.due("to be redone", x.count(3), 3);
            ACTS[i].on(x);
            Check.due("act " + i + " ends redoing", x.count(3), 0);
            Check.due("act " + i + " ends redoing", x.redo(), 7);
        }
    }

    private static void refusedOnesKeepRedo() {
        Bounds.Call[] refused = {x -> x.sheet(8, 2, 9), x -> x.cell(4, 0, 77), x -> x.tear(8),
            x -> x.copy(2, 0, 2, 3, 9), x -> x.plain(0, 44, 44, 3), x -> x.still(3, false, 66, 9),
            x -> x.bent(0, true, 140, 4, 2), x -> x.bought(true, 200, 0), x -> x.gap(201), x -> x.forbid(1, 0, true),
            x -> x.meet(0, 0, 1, 0), x -> x.empty(4)};
        HeatWorks x = Bounds.some();
        for (int i = 0; i < refused.length; i++) {
            Check.holds("refused " + i, refused[i].on(x) > 0);
            Check.due("refused " + i + " keeps redoing", x.count(3), 3);
        }
        Check.due("redo", x.redo(), 0);
        Check.due("the first of the undone", x.count(1), 9);
    }

    private static void questionsKeepRedo() {
        HeatWorks x = Bounds.some();
        Seen.state(x);
        Check.due("to be redone", x.count(3), 3);
        Check.due("redo", x.redo(), 0);
        Check.due("redo", x.redo(), 0);
        Check.due("the second of the undone", x.number(2, 0), -1);
        Check.due("redo", x.redo(), 0);
        Check.due("the third of the undone", x.count(5), 0);
        Check.due("redo", x.redo(), 7);
    }

    private static HeatWorks gaps(int acts) {
        HeatWorks x = new HeatWorks();
        for (int n = 1; n <= acts; n++) {
            x.gap(gapOf(n));
        }
        return x;
    }

    /** The GAP that act n tells; unlike for acts that are less than 200 apart. */
    private static int gapOf(int n) {
        return n == 0 ? 10 : (n - 1) % KEPT + 1;
    }

    private static void undoes(HeatWorks x, int n, int latest) {
        for (int i = 1; i <= n; i++) {
            Check.due("undo " + i, x.undo(), 0);
        }
        Check.due("the gap when " + n + " are undone", x.count(1), gapOf(latest - n));
    }

    /** "(The latest 200 are kept ..)": 199, then 200 acts. */
    private static void twoHundredKept() {
        for (int acts = KEPT - 1; acts <= KEPT; acts++) {
            HeatWorks x = gaps(acts);
            Check.due("kept of " + acts, x.count(2), acts);
            undoes(x, acts, acts);
            Check.due("undo", x.undo(), 7);
            Check.due("as a new one", x.count(1), 10);
            Check.due("to be redone", x.count(3), acts);
        }
    }

    /** 201 acts: the first is no longer kept. */
    private static void twoHundredAndOne() {
        HeatWorks x = gaps(KEPT + 1);
        Check.due("kept of 201", x.count(2), KEPT);
        undoes(x, KEPT, KEPT + 1);
        Check.due("undo", x.undo(), 7);
        Check.due("the first act stays", x.count(1), 1);
        Check.due("to be undone", x.count(2), 0);
        Check.due("to be redone", x.count(3), KEPT);
    }

    /** 202 to 300 acts: the places of the first ones are used again. */
    private static void ringBeginsAgain() {
        int[] some = {202, 203, 250, 300};
        for (int acts : some) {
            HeatWorks x = gaps(acts);
            Check.due("kept of " + acts, x.count(2), KEPT);
            undoes(x, KEPT, acts);
            Check.due("undo", x.undo(), 7);
            Check.due("what is not kept stays", x.count(1), gapOf(acts - KEPT));
        }
    }

    /** 400 to 404 acts: the places are used a third time. */
    private static void ringBeginsAgainAndAgain() {
        for (int acts = 400; acts <= 404; acts++) {
            HeatWorks x = gaps(acts);
            Check.due("kept of " + acts, x.count(2), KEPT);
            undoes(x, 50, acts);
            Check.due("to be redone", x.count(3), 50);
            for (int n = 1; n <= 20; n++) {
                Check.due("redo", x.redo(), 0);
            }
            Check.due("the gap when 20 are redone", x.count(1), gapOf(acts - 30));
        }
    }

    /** With 200 kept, some undone, other acts come: they fill up to 200 again. */
    private static void anotherActWhenFull() {
        HeatWorks x = gaps(KEPT + 5);
        undoes(x, 3, KEPT + 5);
        x.gap(77);
        Check.due("kept", x.count(2), KEPT - 2);
        x.gap(78);
        x.gap(79);
        Check.due("kept", x.count(2), KEPT);
        x.gap(80);
        Check.due("kept", x.count(2), KEPT);
        Check.due("redo", x.redo(), 7);
        for (int n = 79; n >= 77; n--) {
            x.undo();
            Check.due("the other acts", x.count(1), n);
        }
        x.undo();
        Check.due("the acts ahead of them", x.count(1), gapOf(KEPT + 2));
        for (int n = 0; n < KEPT - 4; n++) {
            Check.due("undo", x.undo(), 0);
        }
        Check.due("undo", x.undo(), 7);
        Check.due("the sixth act stays", x.count(1), 6);
    }

    /** As many are undone and done again as 512 calls leave room for. */
    private static void redoOfMany() {
        HeatWorks x = gaps(105);
        undoes(x, 105, 105);
        for (int n = 1; n <= 105; n++) {
            Check.due("redo " + n, x.redo(), 0);
        }
        Check.due("redo", x.redo(), 7);
        Check.due("the last one is done", x.count(1), gapOf(105));
        x = gaps(KEPT + 1);
        for (int n = 0; n < 140; n++) {
            x.undo();
        }
        Check.due("to be redone", x.count(3), 140);
        Check.due("the 61st", x.count(1), gapOf(61));
        for (int n = 0; n < 140; n++) {
            x.redo();
        }
        Check.due("the 201st", x.count(1), gapOf(201));
        Check.due("redo", x.redo(), 7);
        Check.due("kept", x.count(2), KEPT);
    }

    /** "at most 512 calls": the last of them, of whatever kind, answers as the first would. */
    private static void lastOf512Calls() {
        Bounds.Call[] calls = {HeatWorks::price, x -> x.least(3), x -> x.fewest(0, true), x -> x.verdict(0),
            x -> x.closest(0, 1), x -> x.engine(30, 100, 10, 20), x -> x.carrier(0, 1, 70), x -> x.plain(0, 9, 5, 1),
            x -> x.cell(0, 3, 9), x -> x.meet(0, 0, 1, 5), x -> x.count(2), x -> x.bent(0, true, 140, 0, 2),
            HeatWorks::undo};
        for (int i = 0; i < calls.length; i++) {
            long want = calls[i].on(Bounds.some());
            HeatWorks x = Bounds.some();
            for (int n = Bounds.CALLS_OF_SOME; n < CALLS - 1; n++) {
                Check.due("a call ahead of the last", x.count(0), 8);
            }
            Check.due("the 512th call, of kind " + i, calls[i].on(x), want);
        }
        HeatWorks x = new HeatWorks();
        for (int n = 0; n < CALLS - 1; n++) {
            x.gap(n % KEPT + 1);
        }
        Check.due("the gap behind 511 acts", x.count(1), (CALLS - 2) % KEPT + 1);
    }

    /** What later calls answer is free, but none throws or fails to end. */
    private static void beyond512Calls() {
        HeatWorks x = Bounds.some();
        boolean ended = false;
        try {
            for (int n = 0; n < 3 * CALLS; n++) {
                ACTS[n % ACTS.length].on(x);
                x.price();
                x.fewest(0, n % 2 == 0);
                x.verdict(n % 4);
                if (n % 5 == 0) {
                    x.undo();
                }
            }
            ended = true;
        } catch (RuntimeException e) {
            System.out.println("beyond 512 calls: " + e);
        }
        Check.holds("calls beyond the 512th end", ended);
    }
}
