/** Promises 1 to 5 and 17: a new object, sheet, cell, tear, copy, number. */
public final class SheetsTest {
    private static final int MIN = Integer.MIN_VALUE;
    private static final int MAX = Integer.MAX_VALUE;

    public static void main(String[] args) {
        newObject();
        sheets();
        cells();
        tearing();
        copying();
        copyRefused();
        Check.end();
    }

    private static void newObject() {
        HeatWorks x = new HeatWorks();
        Check.due("NONE", HeatWorks.NONE, -1);
        Check.due("new count(0)", x.count(0), 0);
        Check.due("new count(1)", x.count(1), 10);
        for (int what = 2; what <= 8; what++) {
            Check.due("new count(" + what + ")", x.count(what), 0);
        }
        for (int k = 0; k < 8; k++) {
            Check.due("new number(" + k + ", 0)", x.number(k, 0), -1);
            Check.due("new cell(" + k + ", 0, 1)", x.cell(k, 0, 1), 4);
        }
        for (int i = 0; i < 12; i++) {
            Check.due("new about(" + i + ", 0)", x.about(i, 0), -1);
        }
        Check.due("new undo", x.undo(), 7);
        Check.due("new redo", x.redo(), 7);
        Check.due("new finding(0)", x.finding(0), -1);
        Check.due("new price", x.price(), 0);
    }

    private static void sheets() {
        HeatWorks x = new HeatWorks();
        Check.due("sheet(0, 0, 0)", x.sheet(0, 0, 0), 0);
        Check.due("number(0, 0) of none", x.number(0, 0), -1);
        Check.due("sheet(7, 2, 16)", x.sheet(7, 2, 16), 0);
        Check.due("number(7, 15)", x.number(7, 15), 0);
        Check.due("number(7, 16)", x.number(7, 16), -1);
        Check.due("number(7, -1)", x.number(7, -1), -1);
        Check.due("number(8, 0)", x.number(8, 0), -1);
        Check.due("number(-1, 0)", x.number(-1, 0), -1);
        Check.due("number(7, MAX)", x.number(7, MAX), -1);
        Check.due("number(MIN, MIN)", x.number(MIN, MIN), -1);
        Check.due("sheet(8, 0, 1)", x.sheet(8, 0, 1), 1);
        Check.due("sheet(-1, 0, 1)", x.sheet(-1, 0, 1), 1);
        Check.due("sheet(0, 3, 1)", x.sheet(0, 3, 1), 1);
        Check.due("sheet(0, -1, 1)", x.sheet(0, -1, 1), 1);
        Check.due("sheet(0, 3, 17)", x.sheet(0, 3, 17), 1);
        Check.due("sheet(0, 1, 17)", x.sheet(0, 1, 17), 3);
        Check.due("sheet(0, 1, -1)", x.sheet(0, 1, -1), 3);
        Check.due("sheet(0, 1, MIN)", x.sheet(0, 1, MIN), 3);
        Check.due("refused ones are no acts", x.count(2), 2);
        x.cell(7, 3, 5);
        Check.due("sheet(7, 0, 4) anew", x.sheet(7, 0, 4), 0);
        Check.due("number(7, 3) anew", x.number(7, 3), 0);
        Check.due("number(7, 4) anew", x.number(7, 4), -1);
    }

    private static void cells() {
        HeatWorks x = new HeatWorks();
        for (int form = 0; form < 3; form++) {
            x.sheet(form, form, 3);
        }
        int[] given = {127, 128, -128, -129, 255, 256, 32767, 32768, -32769, 65536, MAX, MIN};
        int[] asByte = {127, -128, -128, 127, -1, 0, -1, 0, -1, 0, -1, 0};
        int[] asShort = {127, 128, -128, -129, 255, 256, 32767, -32768, 32767, 0, -1, 0};
        for (int i = 0; i < given.length; i++) {
            for (int form = 0; form < 3; form++) {
                Check.due("cell(" + form + ", 1, " + given[i] + ")", x.cell(form, 1, given[i]), 0);
            }
            Check.due("byte of " + given[i], x.number(0, 1), asByte[i]);
            Check.due("short of " + given[i], x.number(1, 1), asShort[i]);
            Check.due("int of " + given[i], x.number(2, 1), given[i]);
        }
        Check.due("the one before", x.number(2, 0), 0);
        Check.due("the one behind", x.number(2, 2), 0);
        Check.due("cell(8, 0, 0)", x.cell(8, 0, 0), 1);
        Check.due("cell(-1, 0, 0)", x.cell(-1, 0, 0), 1);
        Check.due("cell(0, -1, 0)", x.cell(0, -1, 0), 1);
        Check.due("cell(0, 16, 0)", x.cell(0, 16, 0), 1);
        Check.due("cell(0, 15, 0)", x.cell(0, 15, 0), 5);
        Check.due("cell(0, 3, 0)", x.cell(0, 3, 0), 5);
        Check.due("cell(5, 3, 0)", x.cell(5, 3, 0), 4);
        Check.due("cell(5, 16, 0)", x.cell(5, 16, 0), 1);
    }

    private static void tearing() {
        HeatWorks x = new HeatWorks();
        x.sheet(3, 1, 2);
        Check.due("tear(3)", x.tear(3), 0);
        Check.due("torn number", x.number(3, 0), -1);
        Check.due("torn cell", x.cell(3, 0, 1), 4);
        Check.due("tear(3) again", x.tear(3), 0);
        Check.due("tear(8)", x.tear(8), 1);
        Check.due("tear(-1)", x.tear(-1), 1);
        Check.due("acts", x.count(2), 3);
        x.sheet(3, 1, 2);
        Check.due("a row again", x.number(3, 1), 0);
    }

    private static void copying() {
        HeatWorks x = new HeatWorks();
        x.sheet(0, 1, 5);
        x.sheet(1, 1, 4);
        for (int i = 0; i < 5; i++) {
            x.cell(0, i, 10 + i);
        }
        Check.due("copy(0, 1, 1, 2, 2)", x.copy(0, 1, 1, 2, 2), 0);
        int[] want = {0, 0, 11, 12};
        for (int i = 0; i < 4; i++) {
            Check.due("copied " + i, x.number(1, i), want[i]);
        }
        Check.due("no number too many", x.copy(0, 3, 1, 0, 1), 0);
        Check.due("copied", x.number(1, 0), 13);
        Check.due("not copied", x.number(1, 1), 0);
        Check.due("onto itself, up", x.copy(0, 0, 0, 1, 4), 0);
        int[] up = {10, 10, 11, 12, 13};
        for (int i = 0; i < 5; i++) {
            Check.due("up " + i, x.number(0, i), up[i]);
        }
        Check.due("onto itself, down", x.copy(0, 2, 0, 0, 3), 0);
        int[] down = {11, 12, 13, 12, 13};
        for (int i = 0; i < 5; i++) {
            Check.due("down " + i, x.number(0, i), down[i]);
        }
        Check.due("none of them", x.copy(0, 5, 1, 4, 0), 0);
        Check.due("acts", x.count(2), 12);
        x.cell(0, 0, 99);
        Check.due("the copy stays", x.number(1, 2), 11);
    }

    private static void copyRefused() {
        HeatWorks x = new HeatWorks();
        x.sheet(0, 1, 5);
        x.sheet(1, 1, 4);
        x.sheet(2, 2, 4);
        Check.due("copy(8, ..)", x.copy(8, 0, 1, 0, 1), 1);
        Check.due("copy(.., -1, ..)", x.copy(0, 0, -1, 0, 1), 1);
        Check.due("1 ahead of 3", x.copy(0, -1, 8, 0, 1), 1);
        Check.due("n below 0", x.copy(0, 0, 1, 0, -1), 3);
        Check.due("i below 0", x.copy(0, -1, 1, 0, 1), 3);
        Check.due("j below 0", x.copy(0, 0, 1, MIN, 1), 3);
        Check.due("3 ahead of 4", x.copy(6, 0, 1, -1, 1), 3);
        Check.due("the first missing", x.copy(6, 0, 1, 0, 1), 4);
        Check.due("the second missing", x.copy(0, 0, 6, 0, 1), 4);
        Check.due("4 ahead of 5", x.copy(0, 9, 6, 0, 1), 4);
        Check.due("the first ends", x.copy(0, 4, 1, 0, 2), 5);
        Check.due("the second ends", x.copy(0, 0, 1, 3, 2), 5);
        Check.due("far beyond", x.copy(0, MAX, 1, 0, MAX), 5);
        Check.due("far beyond in the second", x.copy(0, 0, 1, MAX, 1), 5);
        Check.due("5 ahead of 6", x.copy(0, 4, 2, 0, 2), 5);
        Check.due("another form", x.copy(0, 0, 2, 0, 2), 6);
        Check.due("acts", x.count(2), 3);
    }
}
