/** The bounds that promises 6 to 10 and 16 name: plain, still, bent, bought, gap, about. */
public final class BoundsStreamsTest {
    private static final int MIN = Bounds.MIN;
    private static final int MAX = Bounds.MAX;
    private static final int[] NO_WORKS = {-1, 3, MIN, MAX};
    private static final int[] NO_WARMTHS = {-1, 2001, MIN, MAX};
    private static final int[] NO_FLOWS = {0, 1001, -1, MIN, MAX};

    public static void main(String[] args) {
        twelveStreams();
        thirteenth();
        roomAgain();
        plainWork();
        plainWarmths();
        plainFromIsTo();
        plainFlow();
        plainFallsOrRises();
        plainLeastNumber();
        stillWork();
        stillWarmth();
        stillHeat();
        stillLeastNumber();
        bentWork();
        bentSheet();
        bentFrom();
        bentSpans();
        bentDegrees();
        bentFlow();
        bentWarmthComeTo();
        bentMissing();
        bentEnds();
        bentOnlyWhatIsRead();
        bentOfForms();
        bentNumbersThatAreThere();
        bentLeastNumber();
        bentStaysAsTold();
        boughtWarmth();
        boughtPrice();
        boughtLeastNumber();
        gaps();
        aboutStream();
        aboutWhat();
        aboutEachKind();
        aboutMostHeat();
        Check.end();
    }

    // ---- STREAMS 0 to 11 ----

    /** One of each kind in turn, up to the twelfth. */
    private static void twelveStreams() {
        HeatWorks x = new HeatWorks();
        Bounds.row(x, 0, 2, 5, 6);
        for (int i = 0; i < 12; i++) {
            Check.due("stream " + i, comes(x, i % 5, i), 0);
            Check.due("streams", x.count(0), i + 1);
            Check.due("its kind", x.about(i, 0), i % 5);
            Check.due("its from", x.about(i, 3), 100 + i);
            Check.due("the next one", x.about(i + 1, 0), -1);
        }
        for (int i = 0; i < 12; i++) {
            Check.due("its from stays", x.about(i, 3), 100 + i);
        }
    }

    private static int comes(HeatWorks x, int kind, int i) {
        switch (kind) {
            case 0:
                return x.plain(i % 3, 100 + i, 50, 1);
            case 1:
                return x.still(i % 3, true, 100 + i, 1);
            case 2:
                return x.bent(i % 3, true, 100 + i, 0, 1);
            default:
                return x.bought(kind == 3, 100 + i, 1);
        }
    }

    /** "2 (there are 12)", for every kind, and ahead of 3, 4 and 5. */
    private static void thirteenth() {
        Bounds.refused("a 13th PLAIN", Bounds::full, x -> x.plain(0, 100, 40, 3), 2);
        Bounds.refused("a 13th STILL", Bounds::full, x -> x.still(0, true, 100, 3), 2);
        Bounds.refused("a 13th STILL COLD one", Bounds::full, x -> x.still(0, false, 100, 3), 2);
        Bounds.refused("a 13th BENT", Bounds::twelveAndARow, x -> x.bent(0, true, 100, 0, 1), 2);
        Bounds.refused("a 13th BOUGHT HEAT", Bounds::full, x -> x.bought(true, 100, 3), 2);
        Bounds.refused("a 13th BOUGHT COLD", Bounds::full, x -> x.bought(false, 100, 3), 2);
        Bounds.refused("PLAIN: 2 ahead of 3", Bounds::full, x -> x.plain(0, 100, 100, 0), 2);
        Bounds.refused("STILL: 2 ahead of 3", Bounds::full, x -> x.still(0, true, 2001, 0), 2);
        Bounds.refused("BENT: 2 ahead of 3", Bounds::twelveAndARow, x -> x.bent(0, true, 2001, 0, 9), 2);
        Bounds.refused("BENT: 2 ahead of 4", Bounds::twelveAndARow, x -> x.bent(0, true, 100, 7, 1), 2);
        Bounds.refused("BENT: 2 ahead of 5", Bounds::twelveAndARow, x -> x.bent(0, true, 100, 0, 2), 2);
        Bounds.refused("BOUGHT: 2 ahead of 3", Bounds::full, x -> x.bought(true, 2001, 0), 2);
        Bounds.refused("PLAIN: 1 ahead of 2", Bounds::full, x -> x.plain(3, 100, 40, 3), 1);
        Bounds.refused("STILL: 1 ahead of 2", Bounds::full, x -> x.still(-1, true, 100, 3), 1);
        Bounds.refused("BENT: 1 (WORK) ahead of 2", Bounds::twelveAndARow, x -> x.bent(3, true, 100, 0, 1), 1);
        Bounds.refused("BENT: 1 (SHEET) ahead of 2", Bounds::twelveAndARow, x -> x.bent(0, true, 100, 8, 1), 1);
    }

    private static void roomAgain() {
        HeatWorks x = Bounds.full();
        for (int i = 0; i < 81; i++) {
            x.undo();
        }
        Check.due("eleven again", x.count(0), 11);
        Check.due("room for a twelfth", x.still(2, false, 77, 5), 0);
        Check.due("its warmth", x.about(11, 3), 77);
        Check.due("no room for more", x.still(2, false, 77, 5), 2);
    }

    // ---- promise 6 ----

    private static void plainWork() {
        for (int work = 0; work < 3; work++) {
            int it = work;
            Bounds.accepted("plain of work " + work, x -> x.plain(it, 100, 40, 3));
        }
        for (int work : NO_WORKS) {
            Bounds.refused("plain of work " + work, x -> x.plain(work, 100, 40, 3), 1);
        }
    }

    /** "WARMTHS are whole degrees, 0 to 2000" */
    private static void plainWarmths() {
        Bounds.accepted("plain from 0", x -> x.plain(0, 0, 1, 1));
        Bounds.accepted("plain from 2000", x -> x.plain(0, 2000, 1999, 1));
        Bounds.accepted("plain to 0", x -> x.plain(0, 1, 0, 1));
        Bounds.accepted("plain to 2000", x -> x.plain(0, 1999, 2000, 1));
        Bounds.accepted("plain from 0 to 2000", x -> x.plain(0, 0, 2000, 1));
        Bounds.accepted("plain from 2000 to 0", x -> x.plain(0, 2000, 0, 1));
        for (int v : NO_WARMTHS) {
            Bounds.refused("plain from " + v, x -> x.plain(0, v, 40, 1), 3);
            Bounds.refused("plain to " + v, x -> x.plain(0, 40, v, 1), 3);
        }
    }

    /** "3 (from is to, too)" */
    private static void plainFromIsTo() {
        int[] warmths = {0, 1000, 2000};
        for (int v : warmths) {
            Bounds.refused("plain from " + v + " to it", x -> x.plain(0, v, v, 1), 3);
        }
        Bounds.refused("plain from 2001 to it", x -> x.plain(0, 2001, 2001, 1), 3);
        Bounds.accepted("plain a degree down", x -> x.plain(0, 1000, 999, 1));
        Bounds.accepted("plain a degree up", x -> x.plain(0, 1000, 1001, 1));
    }

    /** "a FLOW (1 to 1000)" */
    private static void plainFlow() {
        Bounds.accepted("plain flow 1", x -> x.plain(0, 100, 40, 1));
        Bounds.accepted("plain flow 1000", x -> x.plain(0, 100, 40, 1000));
        for (int v : NO_FLOWS) {
            Bounds.refused("plain flow " + v, x -> x.plain(0, 100, 40, v), 3);
            Bounds.refused("plain flow " + v + ", COLD", x -> x.plain(0, 40, 100, v), 3);
        }
    }

    /** "HOT if it falls, COLD if it rises": by one degree. */
    private static void plainFallsOrRises() {
        HeatWorks x = new HeatWorks();
        x.plain(0, 1, 0, 1);
        x.plain(0, 0, 1, 1);
        x.plain(0, 2000, 1999, 1000);
        x.plain(0, 1999, 2000, 1000);
        int[] hot = {1, 0, 1, 0};
        int[] heat = {1, 1, 1000, 1000};
        for (int i = 0; i < 4; i++) {
            Check.due("HOT or COLD " + i, x.about(i, 1), hot[i]);
            Check.due("heat of a degree " + i, x.about(i, 5), heat[i]);
        }
    }

    private static void plainLeastNumber() {
        Bounds.refused("plain: 1 ahead of 3 (from)", x -> x.plain(3, -1, 40, 1), 1);
        Bounds.refused("plain: 1 ahead of 3 (to)", x -> x.plain(3, 40, 2001, 1), 1);
        Bounds.refused("plain: 1 ahead of 3 (from is to)", x -> x.plain(-1, 40, 40, 1), 1);
        Bounds.refused("plain: 1 ahead of 3 (flow)", x -> x.plain(-1, 100, 40, 0), 1);
    }

    // ---- promise 7 ----

    private static void stillWork() {
        for (int work = 0; work < 3; work++) {
            int it = work;
            Bounds.accepted("still of work " + work, x -> x.still(it, true, 100, 40));
        }
        for (int work : NO_WORKS) {
            Bounds.refused("still of work " + work, x -> x.still(work, true, 100, 40), 1);
            Bounds.refused("COLD still of work " + work, x -> x.still(work, false, 100, 40), 1);
        }
    }

    private static void stillWarmth() {
        int[] warmths = {0, 2000};
        for (int v : warmths) {
            Bounds.accepted("HOT still at " + v, x -> x.still(0, true, v, 1));
            Bounds.accepted("COLD still at " + v, x -> x.still(0, false, v, 1));
        }
        for (int v : NO_WARMTHS) {
            Bounds.refused("HOT still at " + v, x -> x.still(0, true, v, 1), 3);
            Bounds.refused("COLD still at " + v, x -> x.still(0, false, v, 1), 3);
        }
    }

    /** "all its heat (1 to 1000000)" */
    private static void stillHeat() {
        int[] heats = {1, 1000000};
        for (int v : heats) {
            Bounds.accepted("HOT still of " + v, x -> x.still(0, true, 100, v));
            Bounds.accepted("COLD still of " + v, x -> x.still(0, false, 100, v));
        }
        int[] none = {0, 1000001, -1, MIN, MAX};
        for (int v : none) {
            Bounds.refused("HOT still of " + v, x -> x.still(0, true, 100, v), 3);
            Bounds.refused("COLD still of " + v, x -> x.still(0, false, 100, v), 3);
        }
    }

    private static void stillLeastNumber() {
        Bounds.refused("still: 1 ahead of 3 (warmth)", x -> x.still(3, true, 2001, 1), 1);
        Bounds.refused("still: 1 ahead of 3 (heat)", x -> x.still(-1, false, 100, 0), 1);
    }

    // ---- promise 8 ----

    /** A works with one SHEET of ints: these numbers. */
    private static Bounds.Maker told(int... numbers) {
        return () -> {
            HeatWorks x = new HeatWorks();
            x.sheet(3, 2, numbers.length);
            for (int i = 0; i < numbers.length; i++) {
                x.cell(3, i, numbers[i]);
            }
            x.gap(20);
            x.undo();
            return x;
        };
    }

    private static void bentWork() {
        for (int work = 0; work < 3; work++) {
            int it = work;
            Bounds.accepted("bent of work " + work, x -> x.bent(it, true, 100, 0, 2));
        }
        for (int work : NO_WORKS) {
            Bounds.refused("bent of work " + work, x -> x.bent(work, true, 100, 0, 2), 1);
        }
    }

    private static void bentSheet() {
        HeatWorks y = new HeatWorks();
        Bounds.row(y, 0, 2, 1, 1);
        Bounds.row(y, 7, 2, 2, 2);
        Check.due("bent of sheet 0", y.bent(0, true, 100, 0, 1), 0);
        Check.due("bent of sheet 7", y.bent(0, true, 100, 7, 1), 0);
        Check.due("of sheet 0", y.about(0, 5), 1);
        Check.due("of sheet 7", y.about(1, 5), 4);
        int[] none = {-1, 8, MIN, MAX};
        for (int k : none) {
            Bounds.refused("bent of sheet " + k, x -> x.bent(0, true, 100, k, 1), 1);
        }
    }

    private static void bentFrom() {
        Bounds.Maker one = told(1, 1);
        Bounds.accepted("HOT bent from 2000", one, x -> x.bent(0, true, 2000, 3, 1));
        Bounds.accepted("COLD bent from 0", one, x -> x.bent(0, false, 0, 3, 1));
        for (int v : NO_WARMTHS) {
            Bounds.refused("HOT bent from " + v, one, x -> x.bent(0, true, v, 3, 1), 3);
            Bounds.refused("COLD bent from " + v, one, x -> x.bent(0, false, v, 3, 1), 3);
        }
    }

    /** "so many SPANS (1 to 8)" */
    private static void bentSpans() {
        Bounds.Maker most = told(1, 1, 2, 2, 3, 3, 4, 4, 5, 5, 6, 6, 7, 7, 8, 8);
        Bounds.accepted("bent of 1 span", most, x -> x.bent(0, true, 100, 3, 1));
        Bounds.accepted("bent of 8 spans", most, x -> x.bent(0, true, 100, 3, 8));
        int[] none = {0, 9, -1, MIN, MAX, 1 << 30, 1 << 31};
        for (int v : none) {
            Bounds.refused("bent of " + v + " spans", most, x -> x.bent(0, true, 100, 3, v), 3);
        }
        for (int spans = 1; spans <= 8; spans++) {
            HeatWorks x = most.make();
            x.bent(0, true, 100, 3, spans);
            x.bent(0, false, 10, 3, spans);
            int far = spans * (spans + 1) / 2;
            int heat = spans * (spans + 1) * (2 * spans + 1) / 6;
            Check.due("spans", x.about(0, 6), spans);
            Check.due("HOT to, by spans 0 to " + (spans - 1), x.about(0, 4), 100 - far);
            Check.due("COLD to, by spans 0 to " + (spans - 1), x.about(1, 4), 10 + far);
            Check.due("HOT heat", x.about(0, 5), heat);
            Check.due("COLD heat", x.about(1, 5), heat);
        }
    }

    /** "degrees (1 to 500)": in the first SPAN and in the last. */
    private static void bentDegrees() {
        int[] fine = {1, 500};
        int[] none = {0, 501, -1, MIN, MAX};
        for (int v : fine) {
            Bounds.accepted("degrees " + v, told(v, 1), x -> x.bent(0, true, 1000, 3, 1));
            Bounds.accepted("degrees " + v + ", COLD", told(1, 1, v, 1), x -> x.bent(0, false, 1000, 3, 2));
        }
        for (int v : none) {
            Bounds.refused("degrees " + v, told(v, 1), x -> x.bent(0, true, 1000, 3, 1), 3);
            Bounds.refused("degrees " + v + ", COLD", told(v, 1), x -> x.bent(0, false, 1000, 3, 1), 3);
            Bounds.refused("degrees " + v + " of the last", told(1, 1, 1, 1, v, 1),
                    x -> x.bent(0, true, 1000, 3, 3), 3);
        }
        Bounds.refused("degrees 0 of the eighth", told(1, 1, 1, 1, 1, 1, 1, 1, 1, 1, 1, 1, 1, 1, 0, 1),
                x -> x.bent(0, true, 1000, 3, 8), 3);
    }

    /** "and a FLOW (1 to 1000) each" */
    private static void bentFlow() {
        int[] fine = {1, 1000};
        for (int v : fine) {
            Bounds.accepted("span's flow " + v, told(1, v), x -> x.bent(0, true, 1000, 3, 1));
            Bounds.accepted("span's flow " + v + ", COLD", told(1, 1, 1, v), x -> x.bent(0, false, 1000, 3, 2));
        }
        for (int v : NO_FLOWS) {
            Bounds.refused("span's flow " + v, told(1, v), x -> x.bent(0, true, 1000, 3, 1), 3);
            Bounds.refused("span's flow " + v + ", COLD", told(1, v), x -> x.bent(0, false, 1000, 3, 1), 3);
            Bounds.refused("span's flow " + v + " of the last", told(1, 1, 1, 1, 1, v),
                    x -> x.bent(0, true, 1000, 3, 3), 3);
        }
        Bounds.refused("flow 1001 of the eighth", told(1, 1, 1, 1, 1, 1, 1, 1, 1, 1, 1, 1, 1, 1, 1, 1001),
                x -> x.bent(0, true, 1000, 3, 8), 3);
    }

    /** "3 (.. a warmth come to, too)" */
    private static void bentWarmthComeTo() {
        Bounds.Maker two = told(10, 2, 20, 3);
        Bounds.accepted("HOT comes to 0", two, x -> x.bent(0, true, 30, 3, 2));
        Bounds.refused("HOT comes to -1", two, x -> x.bent(0, true, 29, 3, 2), 3);
        Bounds.accepted("HOT comes to 0 by the first", two, x -> x.bent(0, true, 10, 3, 1));
        Bounds.refused("HOT comes to -1 by the first", two, x -> x.bent(0, true, 9, 3, 1), 3);
        Bounds.accepted("COLD comes to 2000", two, x -> x.bent(0, false, 1970, 3, 2));
        Bounds.refused("COLD comes to 2001", two, x -> x.bent(0, false, 1971, 3, 2), 3);
        Bounds.accepted("COLD comes to 2000 by the first", two, x -> x.bent(0, false, 1990, 3, 1));
        Bounds.refused("COLD comes to 2001 by the first", two, x -> x.bent(0, false, 1991, 3, 1), 3);
        Bounds.refused("HOT from 0", two, x -> x.bent(0, true, 0, 3, 1), 3);
        Bounds.refused("COLD from 2000", two, x -> x.bent(0, false, 2000, 3, 1), 3);
        Bounds.Maker far = told(500, 1, 500, 1, 500, 1, 500, 1);
        Bounds.accepted("HOT from 2000 to 0", far, x -> x.bent(0, true, 2000, 3, 4));
        Bounds.refused("HOT from 1999 to -1", far, x -> x.bent(0, true, 1999, 3, 4), 3);
        Bounds.accepted("COLD from 0 to 2000", far, x -> x.bent(0, false, 0, 3, 4));
        Bounds.refused("COLD from 1 to 2001", far, x -> x.bent(0, false, 1, 3, 4), 3);
    }

    private static void bentMissing() {
        Bounds.refused("bent of a sheet never told", x -> x.bent(0, true, 100, 4, 1), 4);
        Bounds.refused("bent of a sheet never told", x -> x.bent(0, false, 100, 7, 8), 4);
        HeatWorks x = Bounds.some();
        x.tear(0);
        Check.due("bent of a torn sheet", x.bent(0, true, 100, 0, 1), 4);
        x.undo();
        Check.due("bent when the tearing is undone", x.bent(0, true, 100, 0, 1), 0);
    }

    /** "5 a SHEET ends ahead of what is read": a row of just as many, one less, two less, none. */
    private static void bentEnds() {
        for (int spans = 1; spans <= 8; spans++) {
            for (int less = 0; less <= 2; less++) {
                int[] numbers = new int[2 * spans - less];
                java.util.Arrays.fill(numbers, 1);
                int it = spans;
                String name = spans + " spans of " + numbers.length + " numbers";
                if (less == 0) {
                    Bounds.accepted(name, told(numbers), x -> x.bent(0, true, 1000, 3, it));
                } else {
                    Bounds.refused(name, told(numbers), x -> x.bent(0, true, 1000, 3, it), 5);
                    Bounds.refused(name + ", COLD", told(numbers), x -> x.bent(0, false, 1000, 3, it), 5);
                }
            }
            int it = spans;
            Bounds.refused(spans + " spans of none", told(), x -> x.bent(0, true, 1000, 3, it), 5);
        }
    }

    /** Numbers behind those of the SPANS are not read: they may be what they like. */
    private static void bentOnlyWhatIsRead() {
        Bounds.accepted("degrees 0 behind", told(5, 5, 0, 5), x -> x.bent(0, true, 1000, 3, 1));
        Bounds.accepted("flow 1001 behind", told(5, 5, 5, 1001), x -> x.bent(0, true, 1000, 3, 1));
        Bounds.accepted("too far behind", told(5, 5, 500, 5), x -> x.bent(0, true, 5, 3, 1));
        Bounds.refused("degrees 0 among them", told(5, 5, 0, 5), x -> x.bent(0, true, 1000, 3, 2), 3);
    }

    /** A SPAN of bytes has 127 at most: 200 told there is below 0. */
    private static void bentOfForms() {
        HeatWorks x = new HeatWorks();
        Bounds.row(x, 0, 0, 127, 127, 128, 1, 1, 200);
        Bounds.row(x, 1, 1, 500, 1000, 65537, 1, 32768, 1);
        Check.due("bytes 127", x.bent(0, true, 1000, 0, 1), 0);
        Check.due("heat", x.about(0, 5), 127 * 127);
        Check.due("a byte told as 128", x.bent(0, true, 1000, 0, 2), 3);
        x.cell(0, 2, 1);
        Check.due("bytes again", x.bent(0, true, 1000, 0, 2), 0);
        Check.due("a byte's flow told as 200", x.bent(0, true, 1000, 0, 3), 3);
        Check.due("shorts, 65537 is 1", x.bent(0, true, 1000, 1, 2), 0);
        Check.due("heat", x.about(2, 5), 500001);
        Check.due("a short told as 32768", x.bent(0, true, 1000, 1, 3), 3);
        x.cell(0, 0, 256 + 7);
        Check.due("263 in a byte is 7", x.bent(0, true, 1000, 0, 1), 0);
        Check.due("to", x.about(3, 4), 993);
    }

    /** "3 (any of the numbers that are there ..)": a row that ends, with a number that is not as told. */
    private static void bentNumbersThatAreThere() {
        Bounds.refused("degrees 0, then it ends", told(0), x -> x.bent(0, true, 1000, 3, 1), 3);
        Bounds.refused("degrees 501, then it ends", told(501), x -> x.bent(0, true, 1000, 3, 8), 3);
        Bounds.refused("flow 0, then it ends", told(1, 0), x -> x.bent(0, true, 1000, 3, 2), 3);
        Bounds.refused("flow 1001, then it ends", told(1, 1001), x -> x.bent(0, true, 1000, 3, 8), 3);
        Bounds.refused("degrees 0 in half a span", told(1, 1, 0), x -> x.bent(0, true, 1000, 3, 2), 3);
        Bounds.refused("degrees 501 in half a span", told(1, 1, 501), x -> x.bent(0, true, 1000, 3, 2), 3);
        Bounds.refused("HOT comes to -1, then it ends", told(10, 1), x -> x.bent(0, true, 9, 3, 2), 3);
        Bounds.refused("COLD comes to 2001, then it ends", told(10, 1), x -> x.bent(0, false, 1991, 3, 2), 3);
        Bounds.refused("all are as told, then it ends", told(10, 1), x -> x.bent(0, true, 10, 3, 2), 5);
        Bounds.refused("half a span is as told", told(10, 1, 5), x -> x.bent(0, true, 100, 3, 2), 5);
    }

    private static void bentLeastNumber() {
        Bounds.refused("bent: 1 (WORK) ahead of 3", x -> x.bent(3, true, 2001, 0, 1), 1);
        Bounds.refused("bent: 1 (SHEET) ahead of 3", x -> x.bent(0, true, 100, 8, 0), 1);
        Bounds.refused("bent: 1 (WORK) ahead of 4", x -> x.bent(-1, true, 100, 4, 1), 1);
        Bounds.refused("bent: 1 (WORK) ahead of 5", x -> x.bent(-1, true, 100, 3, 1), 1);
        Bounds.refused("bent: 3 (from) ahead of 4", x -> x.bent(0, true, -1, 4, 1), 3);
        Bounds.refused("bent: 3 (spans) ahead of 4", x -> x.bent(0, true, 100, 4, 0), 3);
        Bounds.refused("bent: 3 (spans) ahead of 4", x -> x.bent(0, true, 100, 4, 9), 3);
        Bounds.refused("bent: 3 (from) ahead of 5", x -> x.bent(0, true, 2001, 3, 1), 3);
        Bounds.refused("bent: 3 (spans) ahead of 5", x -> x.bent(0, true, 100, 3, 9), 3);
    }

    /** What comes to the SHEET later is nothing to the stream. */
    private static void bentStaysAsTold() {
        HeatWorks x = told(10, 2, 20, 3).make();
        x.bent(0, true, 100, 3, 2);
        x.cell(3, 0, 11);
        Check.due("number changed", x.about(0, 5), 80);
        x.sheet(3, 2, 16);
        Check.due("row told anew", x.about(0, 4), 70);
        x.tear(3);
        Check.due("torn", x.about(0, 5), 80);
        Check.due("torn: its lines", x.line(0, true, 80), 20);
    }

    // ---- promise 9 ----

    private static void boughtWarmth() {
        int[] fine = {0, 2000};
        for (int v : fine) {
            Bounds.accepted("bought heat at " + v, x -> x.bought(true, v, 5));
            Bounds.accepted("bought cold at " + v, x -> x.bought(false, v, 5));
        }
        for (int v : NO_WARMTHS) {
            Bounds.refused("bought heat at " + v, x -> x.bought(true, v, 5), 3);
            Bounds.refused("bought cold at " + v, x -> x.bought(false, v, 5), 3);
        }
    }

    /** "a PRICE for each unit (1 to 1000)" */
    private static void boughtPrice() {
        int[] fine = {1, 1000};
        for (int v : fine) {
            Bounds.accepted("bought heat for " + v, x -> x.bought(true, 100, v));
            Bounds.accepted("bought cold for " + v, x -> x.bought(false, 100, v));
        }
        int[] none = {0, 1001, -1, MIN, MAX};
        for (int v : none) {
            Bounds.refused("bought heat for " + v, x -> x.bought(true, 100, v), 3);
            Bounds.refused("bought cold for " + v, x -> x.bought(false, 100, v), 3);
        }
    }

    private static void boughtLeastNumber() {
        Bounds.refused("bought heat: both not as told", x -> x.bought(true, 2001, 0), 3);
        Bounds.refused("bought cold: both not as told", x -> x.bought(false, -1, 1001), 3);
    }

    // ---- promise 10 ----

    /** "The GAP (1 to 200; 10 at first)", "STATUS 3" */
    private static void gaps() {
        Bounds.accepted("gap 1", x -> x.gap(1));
        Bounds.accepted("gap 200", x -> x.gap(200));
        Bounds.accepted("the gap that is", x -> x.gap(7));
        int[] none = {0, 201, -1, MIN, MAX};
        for (int g : none) {
            Bounds.refused("gap " + g, x -> x.gap(g), 3);
        }
        HeatWorks x = new HeatWorks();
        x.still(0, true, 0, 1);
        x.still(1, false, 0, 1);
        x.gap(1);
        Check.due("gap 1", x.count(1), 1);
        Check.due("HOT level with gap 1", x.level(0, 0), -1);
        x.gap(200);
        Check.due("gap 200", x.count(1), 200);
        Check.due("HOT level with gap 200", x.level(0, 0), -200);
        Check.due("COLD level with gap 200", x.level(1, 0), 0);
    }

    // ---- promise 16 ----

    /** "NONE without it": the stream. */
    private static void aboutStream() {
        Bounds.answers("about the first", x -> x.about(0, 0), 0);
        Bounds.answers("about the last", x -> x.about(7, 0), 4);
        Bounds.answers("about the one behind the last", x -> x.about(8, 0), -1);
        Bounds.answers("about the last of twelve", Bounds::full, x -> x.about(11, 0), 4);
        int[] none = {-1, 12, MIN, MAX};
        for (int i : none) {
            Bounds.answers("about " + i, Bounds::full, x -> x.about(i, 0), -1);
        }
        HeatWorks x = Bounds.some();
        x.plain(0, 50, 40, 1);
        Check.due("about a newcomer", x.about(8, 3), 50);
        x.undo();
        Check.due("about one that is undone", x.about(8, 3), -1);
        x.redo();
        Check.due("about one that is done again", x.about(8, 3), 50);
    }

    /** "or for another what" */
    private static void aboutWhat() {
        int[] none = {-1, 7, MIN, MAX};
        for (int i = 0; i < 8; i++) {
            int it = i;
            for (int what : none) {
                Bounds.answers("about " + i + ", what " + what, x -> x.about(it, what), -1);
            }
        }
    }

    /** KIND, HOT, WORK, from, to, heat or PRICE, SPANS of each kind. */
    private static void aboutEachKind() {
        int[][] want = {
            {0, 1, 0, 170, 60, 330, 1}, {0, 0, 1, 20, 135, 230, 1}, {1, 1, 0, 90, 90, 40, 0}, {1, 0, 2, 80, 80, 30, 0},
            {2, 1, 2, 150, 100, 210, 2}, {2, 0, 1, 30, 95, 230, 2}, {3, 1, -1, 300, 300, 5, 0}, {4, 0, -1, 0, 0, 4, 0}};
        HeatWorks x = Bounds.some();
        for (int i = 0; i < want.length; i++) {
            for (int what = 0; what < 7; what++) {
                Check.due("about " + i + ", what " + what, x.about(i, what), want[i][what]);
            }
        }
    }

    /** The largest heats that each kind can have. */
    private static void aboutMostHeat() {
        HeatWorks x = told(500, 1000, 500, 1000, 500, 1000, 500, 1000).make();
        x.plain(0, 2000, 0, 1000);
        x.plain(0, 0, 2000, 1000);
        x.still(0, true, 2000, 1000000);
        x.bent(0, true, 2000, 3, 4);
        x.bent(0, false, 0, 3, 4);
        int[] want = {2000000, 2000000, 1000000, 2000000, 2000000};
        for (int i = 0; i < want.length; i++) {
            Check.due("most heat of " + i, x.about(i, 5), want[i]);
        }
    }
}
