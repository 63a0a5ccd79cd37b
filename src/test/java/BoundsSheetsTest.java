/** The bounds that promises 1 to 5 and 17 name: a new object, sheet, cell, tear, copy, number. */
public final class BoundsSheetsTest {
    private static final int MIN = Bounds.MIN;
    private static final int MAX = Bounds.MAX;
    private static final int[] NO_SHEETS = {-1, 8, MIN, MAX};
    private static final int[] BITS = {8, 16, 32};

    public static void main(String[] args) {
        newHasNoStreams();
        newHasAllSheetsMissing();
        newHasEmptyNets();
        newHasNothingForbidden();
        newHasGapTenAndNoActs();
        newOnesShareNothing();
        sheetK();
        sheetForm();
        sheetN();
        sheetOneAheadOfThree();
        sheetNumbersAreZeroAtFirst();
        sheetOfNone();
        sheetIsThereAlready();
        eightSheets();
        cellK();
        cellPlace();
        cellMissing();
        cellBeyondTheEnd();
        cellLeastNumber();
        cellWrapsAround();
        tearK();
        tearWhatIsMissing();
        tearOneAlone();
        copySheets();
        copyBelowZero();
        copyMissing();
        copyBeyondTheEnd();
        copyToTheEnd();
        copyOfNone();
        copyFarBeyond();
        copyOtherForm();
        copyLeastNumber();
        copyAllAtOnce();
        copyKeepsTheRest();
        numberWithoutIt();
        numberMayBeNone();
        Check.end();
    }

    // ---- promise 1 ----

    /** "No STREAMS": the first and the last of twelve places, and the one beyond. */
    private static void newHasNoStreams() {
        HeatWorks x = new HeatWorks();
        Check.due("new: streams", x.count(0), 0);
        for (int i = -1; i <= 12; i++) {
            for (int what = 0; what <= 6; what++) {
                Check.due("new: about(" + i + ", " + what + ")", x.about(i, what), -1);
            }
        }
        Check.due("new: forbid(0, 1)", x.forbid(0, 1, true), 1);
        Check.due("new: meet(0, 0, 1, 1)", x.meet(0, 0, 1, 1), 1);
        for (int work = 0; work <= 3; work++) {
            Check.due("new: least", x.least(work), 0);
            Check.due("new: cold", x.cold(work), 0);
            Check.due("new: levels", x.levels(work), 0);
            Check.due("new: line", x.line(work, true, MIN), 0);
        }
    }

    /** "all SHEETS MISSING" */
    private static void newHasAllSheetsMissing() {
        HeatWorks x = new HeatWorks();
        for (int k = 0; k < 8; k++) {
            Check.due("new: number(" + k + ", 0)", x.number(k, 0), -1);
            Check.due("new: cell(" + k + ", 0, 1)", x.cell(k, 0, 1), 4);
            Check.due("new: copy(" + k + ", ..)", x.copy(k, 0, 7 - k, 0, 0), 4);
            Check.due("new: bent of " + k, x.bent(0, true, 100, k, 1), 4);
        }
    }

    /** "NETS empty" */
    private static void newHasEmptyNets() {
        HeatWorks x = new HeatWorks();
        for (int net = 0; net < 4; net++) {
            Check.due("new: count(" + (5 + net) + ")", x.count(5 + net), 0);
            Check.due("new: closest(" + net + ", 0)", x.closest(net, 0), -1);
            Check.due("new: verdict(" + net + ")", x.verdict(net), 0);
            Check.due("new: meetings", x.finding(3), 0);
        }
    }

    /** "nothing FORBIDDEN": twelve streams come, and every pair of them may meet. */
    private static void newHasNothingForbidden() {
        for (int h = 0; h < 12; h++) {
            for (int c = 0; c < 12; c++) {
                if (h != c) {
                    HeatWorks x = new HeatWorks();
                    Check.due("new: pairs", x.count(4), 0);
                    for (int i = 0; i <= Math.max(h, c); i++) {
                        if (i == h || i == c) {
                            x.still(0, i == h, i == h ? 100 : 50, 5);
                        } else {
                            x.bought(true, 0, 1);
                        }
                    }
                    Check.due("new: " + h + " warms " + c, x.price(), 0);
                    Check.due("new: pairs", x.count(4), 0);
                }
            }
        }
    }

    /** "The GAP (1 to 200; 10 at first)"; nothing to undo, to redo; no verdict. */
    private static void newHasGapTenAndNoActs() {
        HeatWorks x = new HeatWorks();
        Check.due("new: gap", x.count(1), 10);
        Check.due("new: to be undone", x.count(2), 0);
        Check.due("new: to be redone", x.count(3), 0);
        Check.due("new: undo", x.undo(), 7);
        Check.due("new: redo", x.redo(), 7);
        for (int what = 0; what < 4; what++) {
            Check.due("new: finding(" + what + ")", x.finding(what), -1);
        }
        x.still(0, true, 100, 1);
        Check.due("new: the level of a HOT one", x.level(0, 0), 90);
    }

    private static void newOnesShareNothing() {
        String empty = Seen.all(new HeatWorks());
        HeatWorks first = Bounds.full();
        HeatWorks second = new HeatWorks();
        Check.holds("new: one object knows nothing of another", Seen.all(second).equals(empty));
        Check.due("new: the other one keeps its streams", first.count(0), 12);
    }

    // ---- promise 2 ----

    /** "SHEETS 0 to 7", "STATUS 1" */
    private static void sheetK() {
        Bounds.accepted("sheet 0", x -> x.sheet(0, 2, 3));
        Bounds.accepted("sheet 7", x -> x.sheet(7, 2, 3));
        for (int k : NO_SHEETS) {
            Bounds.refused("sheet " + k, x -> x.sheet(k, 2, 3), 1);
        }
    }

    /** "form 0 bytes, 1 shorts, 2 ints", "STATUS 1" */
    private static void sheetForm() {
        for (int form = 0; form < 3; form++) {
            int it = form;
            Bounds.accepted("form " + form, x -> x.sheet(4, it, 3));
        }
        int[] none = {-1, 3, MIN, MAX};
        for (int form : none) {
            Bounds.refused("form " + form, x -> x.sheet(4, form, 3), 1);
            Bounds.refused("form " + form + " of a sheet that is there", x -> x.sheet(0, form, 3), 1);
        }
    }

    /** "n numbers (0 to 16)", "STATUS 3 (n)" */
    private static void sheetN() {
        for (int form = 0; form < 3; form++) {
            int it = form;
            int[] some = {0, 1, 15, 16};
            for (int n : some) {
                Bounds.accepted("n " + n + " of form " + form, x -> x.sheet(4, it, n));
                HeatWorks x = new HeatWorks();
                x.sheet(4, form, n);
                Check.due("the last of " + n, x.number(4, n - 1), n == 0 ? -1 : 0);
                Check.due("cell at the last of " + n, x.cell(4, Math.max(0, n - 1), 5), n == 0 ? 5 : 0);
                Check.due("cell behind the last of " + n, x.cell(4, n, 5), n == 16 ? 1 : 5);
            }
            int[] none = {-1, 17, MIN, MAX};
            for (int n : none) {
                Bounds.refused("n " + n + " of form " + form, x -> x.sheet(4, it, n), 3);
                Bounds.refused("n " + n + " of a sheet that is there", x -> x.sheet(0, it, n), 3);
            }
        }
    }

    /** "the least number that holds" */
    private static void sheetOneAheadOfThree() {
        Bounds.refused("no sheet, no such n", x -> x.sheet(8, 0, 17), 1);
        Bounds.refused("no sheet, no such n", x -> x.sheet(-1, 2, -1), 1);
        Bounds.refused("no form, no such n", x -> x.sheet(0, 3, 17), 1);
        Bounds.refused("no form, no such n", x -> x.sheet(0, -1, -1), 1);
    }

    /** "of n numbers, 0 at first": a full row that held others is all 0 when it is told anew. */
    private static void sheetNumbersAreZeroAtFirst() {
        for (int form = 0; form < 3; form++) {
            HeatWorks x = new HeatWorks();
            x.sheet(6, form, 16);
            for (int i = 0; i < 16; i++) {
                Check.due("0 at first " + i, x.number(6, i), 0);
                x.cell(6, i, 100 + i);
            }
            Check.due("told anew", x.sheet(6, form, 16), 0);
            for (int i = 0; i < 16; i++) {
                Check.due("0 again " + i, x.number(6, i), 0);
            }
        }
    }

    /** An empty row is there: it ends (5), it is not MISSING (4). */
    private static void sheetOfNone() {
        for (int form = 0; form < 3; form++) {
            HeatWorks x = new HeatWorks();
            x.sheet(5, form, 0);
            Check.due("empty row: number", x.number(5, 0), -1);
            Check.due("empty row: cell", x.cell(5, 0, 1), 5);
            Check.due("empty row: bent", x.bent(0, true, 100, 5, 1), 5);
            Check.due("empty row: copy of none", x.copy(5, 0, 5, 0, 0), 0);
            Check.due("empty row: copy of one", x.copy(5, 0, 5, 0, 1), 5);
        }
    }

    /** A row that is there is no ground to refuse: only 1 and 3 are. */
    private static void sheetIsThereAlready() {
        HeatWorks x = Bounds.some();
        Check.due("there already", x.sheet(0, 2, 2), 0);
        Check.due("shorter now", x.number(0, 2), -1);
        Check.due("of ints now", x.cell(0, 0, 70000), 0);
        Check.due("of ints now", x.number(0, 0), 70000);
        Check.due("longer now", x.sheet(0, 0, 16), 0);
        Check.due("longer now", x.number(0, 15), 0);
        Check.due("of bytes now", x.cell(0, 15, 128), 0);
        Check.due("of bytes now", x.number(0, 15), -128);
    }

    /** Eight full SHEETS stand beside one another. */
    private static void eightSheets() {
        HeatWorks x = new HeatWorks();
        for (int k = 0; k < 8; k++) {
            x.sheet(k, k % 3, 16);
            for (int i = 0; i < 16; i++) {
                x.cell(k, i, 16 * k + i - 64);
            }
        }
        for (int k = 0; k < 8; k++) {
            for (int i = 0; i < 16; i++) {
                Check.due("number " + i + " of sheet " + k, x.number(k, i), 16 * k + i - 64);
            }
        }
    }

    // ---- promise 3 ----

    /** "STATUS 1 (SHEET ..)" */
    private static void cellK() {
        Bounds.accepted("cell of sheet 0", x -> x.cell(0, 0, 1));
        Bounds.accepted("cell of sheet 7", Bounds::full, x -> x.cell(7, 0, 1));
        for (int k : NO_SHEETS) {
            Bounds.refused("cell of sheet " + k, x -> x.cell(k, 0, 1), 1);
        }
    }

    /** "STATUS 1 (.. i not 0 to 15)" */
    private static void cellPlace() {
        Bounds.accepted("cell 0", Bounds::full, x -> x.cell(2, 0, 1));
        Bounds.accepted("cell 15", Bounds::full, x -> x.cell(2, 15, 1));
        int[] none = {-1, 16, MIN, MAX};
        for (int i : none) {
            Bounds.refused("cell " + i, Bounds::full, x -> x.cell(2, i, 1), 1);
        }
    }

    /** "4 a SHEET is MISSING": one never told, one torn. */
    private static void cellMissing() {
        Bounds.refused("cell of a sheet never told", x -> x.cell(4, 0, 1), 4);
        Bounds.refused("cell of a sheet never told", x -> x.cell(7, 15, 1), 4);
        HeatWorks x = Bounds.some();
        x.tear(0);
        Check.due("cell of a torn sheet", x.cell(0, 0, 1), 4);
        x.undo();
        Check.due("cell when the tearing is undone", x.cell(0, 0, 1), 0);
    }

    /** "5 a SHEET ends ahead of what is read" */
    private static void cellBeyondTheEnd() {
        Bounds.accepted("the last of four", x -> x.cell(0, 3, 1));
        Bounds.refused("one behind the last of four", x -> x.cell(0, 4, 1), 5);
        Bounds.refused("15 of four", x -> x.cell(0, 15, 1), 5);
        Bounds.accepted("the last of five", x -> x.cell(1, 4, 1));
        Bounds.refused("one behind the last of five", x -> x.cell(1, 5, 1), 5);
        Bounds.accepted("the last of six", x -> x.cell(2, 5, 1));
        Bounds.refused("one behind the last of six", x -> x.cell(2, 6, 1), 5);
        Bounds.refused("the first of none", x -> x.cell(3, 0, 1), 5);
    }

    private static void cellLeastNumber() {
        Bounds.refused("1 ahead of 4", x -> x.cell(4, 16, 1), 1);
        Bounds.refused("1 ahead of 4", x -> x.cell(4, -1, 1), 1);
        Bounds.refused("1 ahead of 5", x -> x.cell(3, 16, 1), 1);
        Bounds.refused("4, where no row ends", x -> x.cell(4, 15, 1), 4);
    }

    /** "its lowest 8, 16, 32 bits with sign": where the numbers of a form begin again. */
    private static void cellWrapsAround() {
        for (int form = 0; form < 3; form++) {
            long round = 1L << BITS[form];
            long half = round / 2;
            wrap(form, half - 1, half - 1);
            wrap(form, half, -half);
            wrap(form, -half, -half);
            wrap(form, -half - 1, half - 1);
            wrap(form, round - 1, -1);
            wrap(form, round, 0);
            wrap(form, round + 1, 1);
            wrap(form, -round, 0);
            wrap(form, -round - 1, -1);
            wrap(form, 0, 0);
            wrap(form, -1, -1);
        }
        wrap(0, MAX, -1);
        wrap(0, MIN, 0);
        wrap(1, MAX, -1);
        wrap(1, MIN, 0);
        wrap(0, 0x12345678, 0x78);
        wrap(1, 0x12345678, 0x5678);
        wrap(2, 0x12345678, 0x12345678);
        wrap(0, 0x123456f8, -8);
        wrap(1, 0x1234f678, 0xf678 - 65536);
    }

    private static void wrap(int form, long v, long want) {
        HeatWorks x = new HeatWorks();
        x.sheet(1, form, 16);
        int[] places = {0, 8, 15};
        for (int i : places) {
            Check.due("cell " + v, x.cell(1, i, (int) v), 0);
            Check.due(v + " in " + BITS[form] + " bits", x.number(1, i), want);
        }
        Check.due("the one ahead stays", x.number(1, 7), 0);
        Check.due("the one behind stays", x.number(1, 9), 0);
    }

    // ---- promise 4 ----

    /** "STATUS 1" */
    private static void tearK() {
        Bounds.accepted("tear 0", Bounds::full, x -> x.tear(0));
        Bounds.accepted("tear 7", Bounds::full, x -> x.tear(7));
        for (int k : NO_SHEETS) {
            Bounds.refused("tear " + k, Bounds::full, x -> x.tear(k), 1);
        }
    }

    /** Only 1 refuses: a SHEET that is MISSING is torn again, and that is an act. */
    private static void tearWhatIsMissing() {
        Bounds.accepted("tear what was never told", x -> x.tear(4));
        HeatWorks x = Bounds.some();
        Check.due("tear", x.tear(0), 0);
        Check.due("tear again", x.tear(0), 0);
        Check.due("redo is over", x.count(3), 0);
        x.undo();
        Check.due("still torn", x.cell(0, 0, 1), 4);
        x.undo();
        Check.due("there again", x.number(0, 0), 30);
    }

    private static void tearOneAlone() {
        for (int k = 0; k < 8; k++) {
            HeatWorks x = Bounds.full();
            x.tear(k);
            for (int other = 0; other < 8; other++) {
                Check.due("sheet " + other + " when " + k + " is torn", x.number(other, other),
                        other == k ? -1 : other + 1);
            }
            Check.due("torn: cell", x.cell(k, 0, 1), 4);
            x.sheet(k, 2, 1);
            Check.due("told again: 0 at first", x.number(k, 0), 0);
        }
    }

    // ---- promise 5 ----

    /** "STATUS 1 (SHEETS)" */
    private static void copySheets() {
        Bounds.accepted("copy from 0 into 6", Bounds::full, x -> x.copy(0, 0, 6, 0, 2));
        Bounds.accepted("copy from 7 into 1", Bounds::full, x -> x.copy(7, 0, 1, 0, 2));
        for (int k : NO_SHEETS) {
            Bounds.refused("copy from " + k, Bounds::full, x -> x.copy(k, 0, 0, 0, 2), 1);
            Bounds.refused("copy into " + k, Bounds::full, x -> x.copy(0, 0, k, 0, 2), 1);
            Bounds.refused("copy from " + k + " into it", Bounds::full, x -> x.copy(k, 0, k, 0, 2), 1);
        }
    }

    /** "3 (n, i, j below 0)" */
    private static void copyBelowZero() {
        int[] below = {-1, MIN};
        for (int v : below) {
            Bounds.refused("copy: n " + v, x -> x.copy(2, 0, 2, 0, v), 3);
            Bounds.refused("copy: i " + v, x -> x.copy(2, v, 2, 0, 1), 3);
            Bounds.refused("copy: j " + v, x -> x.copy(2, 0, 2, v, 1), 3);
            Bounds.refused("copy: i " + v + ", n 0", x -> x.copy(2, v, 2, 0, 0), 3);
            Bounds.refused("copy: j " + v + ", n 0", x -> x.copy(2, 0, 2, v, 0), 3);
        }
        Bounds.refused("copy: i below 0, though it ends within", x -> x.copy(2, -1, 2, 0, 2), 3);
        Bounds.refused("copy: n below 0, though i is within", x -> x.copy(2, 5, 2, 5, -1), 3);
        Bounds.accepted("copy: n, i, j 0", x -> x.copy(2, 0, 2, 0, 0));
    }

    private static void copyMissing() {
        Bounds.refused("copy from what is MISSING", x -> x.copy(4, 0, 2, 0, 1), 4);
        Bounds.refused("copy into what is MISSING", x -> x.copy(2, 0, 4, 0, 1), 4);
        Bounds.refused("copy from MISSING into MISSING", x -> x.copy(4, 0, 7, 0, 1), 4);
        Bounds.refused("copy of none from what is MISSING", x -> x.copy(4, 0, 2, 0, 0), 4);
        Bounds.refused("copy of none into what is MISSING", x -> x.copy(2, 0, 4, 0, 0), 4);
    }

    /** "5 (not all of these are there)": of the first, of the second. */
    private static void copyBeyondTheEnd() {
        Bounds.accepted("copy: the last of the first", x -> x.copy(2, 5, 2, 0, 1));
        Bounds.refused("copy: one behind the last of the first", x -> x.copy(2, 6, 2, 0, 1), 5);
        Bounds.refused("copy: one too many of the first", x -> x.copy(2, 5, 2, 0, 2), 5);
        Bounds.accepted("copy: into the last of the second", x -> x.copy(2, 0, 2, 5, 1));
        Bounds.refused("copy: behind the last of the second", x -> x.copy(2, 0, 2, 6, 1), 5);
        Bounds.refused("copy: one too many for the second", x -> x.copy(2, 0, 2, 5, 2), 5);
        Bounds.refused("copy: one more than all", x -> x.copy(2, 0, 2, 0, 7), 5);
        Bounds.refused("copy: 17 of full rows", Bounds::full, x -> x.copy(0, 0, 3, 0, 17), 5);
        Bounds.refused("copy: from an empty row", x -> x.copy(3, 0, 2, 0, 1), 5);
        Bounds.refused("copy: into an empty row", x -> x.copy(2, 0, 3, 0, 1), 5);
    }

    /** The longest copies: a full row, a row of another length up to its end. */
    private static void copyToTheEnd() {
        HeatWorks x = new HeatWorks();
        x.sheet(0, 1, 16);
        x.sheet(7, 1, 16);
        for (int i = 0; i < 16; i++) {
            x.cell(0, i, 500 + i);
        }
        Check.due("copy: all sixteen", x.copy(0, 0, 7, 0, 16), 0);
        for (int i = 0; i < 16; i++) {
            Check.due("copied " + i, x.number(7, i), 500 + i);
            Check.due("and still there " + i, x.number(0, i), 500 + i);
        }
        x.sheet(1, 1, 3);
        Check.due("copy: into a shorter one, all of it", x.copy(0, 13, 1, 0, 3), 0);
        Check.due("copied", x.number(1, 2), 515);
        Check.due("copy: out of the shorter one, to the end", x.copy(1, 0, 7, 13, 3), 0);
        Check.due("copied", x.number(7, 15), 515);
        Check.due("not copied", x.number(7, 12), 512);
    }

    /** None of them, from the very end on: all of these are there. */
    private static void copyOfNone() {
        Bounds.accepted("copy: none, from both ends on", x -> x.copy(2, 6, 2, 6, 0));
        Bounds.accepted("copy: none of an empty row", x -> x.copy(3, 0, 2, 6, 0));
        Bounds.accepted("copy: none into an empty row", x -> x.copy(2, 6, 3, 0, 0));
        Bounds.refused("copy: none, another form", x -> x.copy(0, 0, 2, 0, 0), 6);
        HeatWorks x = Bounds.some();
        x.copy(2, 0, 2, 3, 0);
        for (int i = 0; i < 6; i++) {
            Check.due("copy of none changes no number", x.number(2, i), 11 + i);
        }
    }

    /** Sums of i, j and n that would wrap around. */
    private static void copyFarBeyond() {
        Bounds.refused("copy: i and n far beyond", x -> x.copy(2, MAX, 2, 0, MAX), 5);
        Bounds.refused("copy: j and n far beyond", x -> x.copy(2, 0, 2, MAX, MAX), 5);
        Bounds.refused("copy: i far beyond", x -> x.copy(2, MAX, 2, 0, 1), 5);
        Bounds.refused("copy: j far beyond", x -> x.copy(2, 0, 2, MAX, 1), 5);
        Bounds.refused("copy: n far beyond", x -> x.copy(2, 1, 2, 0, MAX), 5);
        Bounds.refused("copy: n far beyond", x -> x.copy(2, 0, 2, 1, MAX), 5);
        Bounds.refused("copy: all far beyond", x -> x.copy(2, MAX, 2, MAX, MAX), 5);
    }

    /** "6 (another form)" */
    private static void copyOtherForm() {
        Bounds.refused("copy: bytes into shorts", x -> x.copy(0, 0, 1, 0, 1), 6);
        Bounds.refused("copy: bytes into ints", x -> x.copy(0, 0, 2, 0, 1), 6);
        Bounds.refused("copy: shorts into bytes", x -> x.copy(1, 0, 0, 0, 1), 6);
        Bounds.refused("copy: shorts into ints", x -> x.copy(1, 0, 2, 0, 1), 6);
        Bounds.refused("copy: ints into bytes", x -> x.copy(2, 0, 0, 0, 1), 6);
        Bounds.refused("copy: ints into shorts", x -> x.copy(2, 0, 1, 0, 1), 6);
        for (int form = 0; form < 3; form++) {
            int it = form;
            Bounds.accepted("copy: the same form", Bounds::full, x -> x.copy(it, 0, it + 3, 0, 16));
        }
    }

    private static void copyLeastNumber() {
        Bounds.refused("copy: 1 ahead of 3", x -> x.copy(8, -1, 2, -1, -1), 1);
        Bounds.refused("copy: 1 ahead of 4", x -> x.copy(4, 0, 8, 0, 1), 1);
        Bounds.refused("copy: 1 ahead of 4", x -> x.copy(8, 0, 4, 0, 1), 1);
        Bounds.refused("copy: 1 ahead of 5", x -> x.copy(2, 99, 8, 0, 1), 1);
        Bounds.refused("copy: 3 ahead of 4", x -> x.copy(4, -1, 2, 0, 1), 3);
        Bounds.refused("copy: 3 ahead of 4", x -> x.copy(2, 0, 4, -1, 1), 3);
        Bounds.refused("copy: 3 ahead of 5", x -> x.copy(2, 99, 2, 0, -1), 3);
        Bounds.refused("copy: 3 ahead of 6", x -> x.copy(0, 0, 2, 0, -1), 3);
        Bounds.refused("copy: 4 ahead of 5", x -> x.copy(2, 99, 4, 0, 1), 4);
        Bounds.refused("copy: 4 ahead of 5", x -> x.copy(4, 0, 2, 99, 1), 4);
        Bounds.refused("copy: 5 ahead of 6, the first", x -> x.copy(0, 4, 2, 0, 1), 5);
        Bounds.refused("copy: 5 ahead of 6, the second", x -> x.copy(0, 0, 2, 6, 1), 5);
    }

    /** "all at once": within one row, up and down, as if the numbers were read ahead of all writing. */
    private static void copyAllAtOnce() {
        for (int i = 0; i <= 6; i++) {
            for (int j = 0; j <= 6; j++) {
                int n = 6 - Math.max(i, j);
                HeatWorks x = Bounds.some();
                Check.due("copy in one row", x.copy(2, i, 2, j, n), 0);
                for (int q = 0; q < 6; q++) {
                    int want = q >= j && q < j + n ? 11 + q - j + i : 11 + q;
                    Check.due("copy of " + n + " from " + i + " to " + j + ", number " + q, x.number(2, q), want);
                }
            }
        }
    }

    /** The first and the last number ahead of and behind what is copied stay, in both rows. */
    private static void copyKeepsTheRest() {
        HeatWorks x = Bounds.some();
        Bounds.row(x, 7, 2, -1, -2, -3, -4);
        Check.due("copy of two", x.copy(2, 1, 7, 1, 2), 0);
        int[] want = {-1, 12, 13, -4};
        for (int i = 0; i < 4; i++) {
            Check.due("second row " + i, x.number(7, i), want[i]);
        }
        for (int i = 0; i < 6; i++) {
            Check.due("first row " + i, x.number(2, i), 11 + i);
        }
        x.cell(2, 1, 99);
        Check.due("what was copied stays", x.number(7, 1), 12);
        x.cell(7, 2, 98);
        Check.due("what it was copied from stays", x.number(2, 2), 13);
    }

    // ---- promise 17 ----

    /** "NONE without it": no SHEET, a MISSING one, no such place. */
    private static void numberWithoutIt() {
        for (int k : NO_SHEETS) {
            Bounds.answers("number of sheet " + k, Bounds::full, x -> x.number(k, 0), -1);
        }
        int[] none = {-1, 16, MIN, MAX};
        for (int i : none) {
            Bounds.answers("number " + i + " of a full row", Bounds::full, x -> x.number(0, i), -1);
            Bounds.answers("number " + i + " of what is MISSING", x -> x.number(7, i), -1);
        }
        Bounds.answers("number 15 of a full row", Bounds::full, x -> x.number(0, 15), 0);
        Bounds.answers("the last number", x -> x.number(0, 3), 3);
        Bounds.answers("one behind the last number", x -> x.number(0, 4), -1);
        Bounds.answers("the first of a MISSING one", x -> x.number(4, 0), -1);
        Bounds.answers("the first of an empty one", x -> x.number(3, 0), -1);
    }

    /** "(its own may be that, too)" */
    private static void numberMayBeNone() {
        for (int form = 0; form < 3; form++) {
            HeatWorks x = new HeatWorks();
            Bounds.row(x, 2, form, -1, -2);
            Check.due("its own is NONE", x.number(2, 0), -1);
            Check.due("its own is below NONE", x.number(2, 1), -2);
        }
    }
}
