/** Promises 14 and 15: undo, redo. */
public final class UndoTest {
    public static void main(String[] args) {
        everyAct();
        anotherAct();
        keptActs();
        asked();
        Check.end();
    }

    /** Does act n of a run that has each kind of act. */
    private static int act(HeatWorks x, int n) {
        switch (n) {
            case 0:
                return x.sheet(0, 2, 4);
            case 1:
                return x.cell(0, 0, 30);
            case 2:
                return x.cell(0, 1, 4);
            case 3:
                return x.copy(0, 0, 0, 2, 2);
            case 4:
                return x.bent(0, true, 90, 0, 2);
            case 5:
                return x.tear(0);
            case 6:
                return x.plain(1, 10, 60, 3);
            case 7:
                return x.still(2, false, 20, 15);
            case 8:
                return x.bought(true, 100, 2);
            case 9:
                return x.bought(false, 0, 1);
            case 10:
                return x.gap(15);
            case 11:
                return x.forbid(0, 2, true);
            case 12:
                return x.meet(0, 0, 1, 20);
            case 13:
                return x.meet(0, 0, 2, 10);
            case 14:
                return x.forbid(0, 2, false);
            case 15:
                return x.sheet(0, 0, 1);
            default:
                return x.empty(0);
        }
    }

    private static final int ACTS = 17;

    private static String seen(HeatWorks x) {
        StringBuilder b = new StringBuilder();
        for (int what = 0; what < 9; what++) {
            if (what != 3) {
                b.append(x.count(what)).append(' ');
            }
        }
        for (int i = 0; i < 5; i++) {
            b.append(x.number(0, i)).append(' ');
            for (int what = 0; what < 7; what++) {
                b.append(x.about(i, what)).append(' ');
            }
        }
        for (int work = 0; work < 4; work++) {
            b.append(x.least(work)).append(' ').append(x.cold(work)).append(' ');
        }
        b.append(x.verdict(0)).append(' ').append(x.finding(1)).append(' ').append(x.closest(0, 0));
        return b.toString();
    }

    /** A new object behind so many acts, of which so many are undone and then so many redone. */
    private static HeatWorks behind(int acts, int undone, int redone) {
        HeatWorks x = new HeatWorks();
        for (int n = 0; n < acts; n++) {
            Check.due("act " + n, act(x, n), 0);
        }
        for (int n = 0; n < undone; n++) {
            Check.due("undo", x.undo(), 0);
        }
        for (int n = 0; n < redone; n++) {
            Check.due("redo", x.redo(), 0);
        }
        return x;
    }

    private static void everyAct() {
        String[] states = new String[ACTS + 1];
        for (int n = 0; n <= ACTS; n++) {
            states[n] = seen(behind(n, 0, 0));
        }
        for (int n = 0; n <= ACTS; n++) {
            HeatWorks x = behind(ACTS, ACTS - n, 0);
            Check.due("to be redone", x.count(3), ACTS - n);
            Check.holds("as behind act " + n, seen(x).equals(states[n]));
            x = behind(ACTS, ACTS, n);
            Check.due("to be redone", x.count(3), ACTS - n);
            Check.holds("as behind act " + n + " redone", seen(x).equals(states[n]));
        }
        Check.due("undo of nothing", behind(ACTS, ACTS, 0).undo(), 7);
        Check.due("redo of nothing", behind(ACTS, ACTS, ACTS).redo(), 7);
    }

    private static void anotherAct() {
        HeatWorks x = new HeatWorks();
        x.gap(1);
        x.gap(2);
        x.gap(3);
        x.undo();
        x.undo();
        Check.due("gap(0) is refused", x.gap(0), 3);
        Check.due("and is no act", x.count(3), 2);
        Check.due("redo", x.redo(), 0);
        Check.due("gap", x.count(1), 2);
        Check.due("another act", x.tear(5), 0);
        Check.due("redo", x.redo(), 7);
        Check.due("count(3)", x.count(3), 0);
        Check.due("count(2)", x.count(2), 3);
        Check.due("undo", x.undo(), 0);
        Check.due("undo", x.undo(), 0);
        Check.due("gap", x.count(1), 1);
        Check.due("undo", x.undo(), 0);
        Check.due("gap", x.count(1), 10);
        Check.due("undo", x.undo(), 7);
        Check.due("gap", x.count(1), 10);
    }

    private static void keptActs() {
        HeatWorks x = new HeatWorks();
        for (int n = 0; n < 210; n++) {
            x.gap(n % 190 + 1);
        }
        Check.due("kept", x.count(2), 200);
        for (int n = 0; n < 200; n++) {
            Check.due("undo " + n, x.undo(), 0);
        }
        Check.due("undo 200", x.undo(), 7);
        Check.due("the tenth act stays", x.count(1), 10);
        Check.due("to be redone", x.count(3), 200);
        for (int n = 0; n < 50; n++) {
            x.redo();
        }
        Check.due("the sixtieth", x.count(1), 60);
        x.gap(77);
        Check.due("kept", x.count(2), 51);
        Check.due("redo", x.redo(), 7);
        x.undo();
        Check.due("the sixtieth", x.count(1), 60);
    }

    /** Questions are no acts: they neither end redoing nor are undone. */
    private static void asked() {
        HeatWorks x = new HeatWorks();
        x.still(0, true, 100, 5);
        x.still(0, false, 50, 5);
        x.meet(0, 0, 1, 5);
        Check.due("verdict", x.verdict(0), 0);
        x.undo();
        Check.due("finding stays", x.finding(3), 1);
        x.price();
        x.engine(5, 5, 5, 4);
        Check.due("redo", x.redo(), 0);
        x.undo();
        x.undo();
        x.undo();
        Check.due("finding stays", x.finding(1), 0);
        Check.due("least", x.least(3), 0);
        Check.due("redo", x.redo(), 0);
        Check.due("streams", x.count(0), 1);
    }
}
