/** The bounds that promise 28 and part IV of the terms name: price. */
public final class BoundsPriceTest {
    public static void main(String[] args) {
        withoutStreams();
        boughtOnesAlone();
        hotMustGo();
        coldMustCome();
        aUnit();
        stillToStill();
        plainToStill();
        stillToPlain();
        plainToPlain();
        bentToBent();
        boughtHeatReaches();
        boughtHeatReachesAPart();
        boughtColdReaches();
        boughtColdReachesAPart();
        boughtAtTheEnds();
        leastAndDearestPrice();
        theCheaperOne();
        dearInAllCheaper();
        forbiddenPairs();
        forbiddenBought();
        forbiddenPartly();
        forbiddenOfStreamEleven();
        allWorksTogether();
        asMuchAsIsWanted();
        mostOfAll();
        mostOfAllAgain();
        asLeastHeatTells();
        fortyTimes();
        fortyTimesThroughActs();
        fortyTimesOfEachObject();
        Check.end();
    }

    // ---- none, and what must be ----

    private static void withoutStreams() {
        Check.due("without streams", new HeatWorks().price(), 0);
    }

    /** "BOUGHT HEAT to BOUGHT COLD goes never." */
    private static void boughtOnesAlone() {
        HeatWorks x = new HeatWorks();
        x.bought(true, 2000, 1);
        Check.due("bought heat alone", x.price(), 0);
        x.bought(false, 0, 1);
        Check.due("bought heat and cold alone", x.price(), 0);
    }

    /** "All heat of HOT ones must go" */
    private static void hotMustGo() {
        HeatWorks x = new HeatWorks();
        x.still(0, true, 100, 8);
        Check.due("HOT alone", x.price(), -1);
        x.still(0, false, 50, 7);
        Check.due("a unit of HOT is left", x.price(), -1);
        x.bought(true, 2000, 1);
        Check.due("bought heat does not help", x.price(), -1);
        x.bought(false, 0, 3);
        Check.due("a unit of cold is bought", x.price(), 3);
        x.still(0, false, 50, 1);
        Check.due("all of HOT is wanted", x.price(), 0);
    }

    /** "all that COLD ones want must come" */
    private static void coldMustCome() {
        HeatWorks x = new HeatWorks();
        x.still(0, false, 50, 8);
        Check.due("COLD alone", x.price(), -1);
        x.still(0, true, 100, 7);
        Check.due("a unit of COLD is missing", x.price(), -1);
        x.bought(false, 0, 1);
        Check.due("bought cold does not help", x.price(), -1);
        x.bought(true, 2000, 3);
        Check.due("a unit of heat is bought", x.price(), 3);
        x.still(0, true, 100, 1);
        Check.due("all of COLD has come", x.price(), 0);
    }

    private static void aUnit() {
        HeatWorks x = new HeatWorks();
        x.still(0, true, 0, 1);
        x.bought(false, 0, 1);
        Check.due("too cold for cold", x.price(), -1);
        x = new HeatWorks();
        x.still(0, true, 10, 1);
        x.bought(false, 0, 1);
        Check.due("the least price", x.price(), 1);
    }

    // ---- "to a LEVEL not above it" ----

    /** The price of one HOT and one COLD stream with nothing bought, for three GAPS: 10 is just enough. */
    private static void reach(String name, Bounds.Maker maker) {
        for (int g = 9; g <= 11; g++) {
            HeatWorks x = maker.make();
            x.gap(g);
            Check.due(name + " with gap " + g, x.price(), g <= 10 ? 0 : -1);
        }
    }

    private static void stillToStill() {
        reach("STILL to STILL", () -> {
            HeatWorks x = new HeatWorks();
            x.still(0, true, 100, 5);
            x.still(0, false, 90, 5);
            return x;
        });
    }

    private static void plainToStill() {
        reach("PLAIN to STILL at its lower end", () -> {
            HeatWorks x = new HeatWorks();
            x.plain(0, 120, 100, 2);
            x.still(0, false, 90, 40);
            return x;
        });
    }

    private static void stillToPlain() {
        reach("STILL to PLAIN at its upper end", () -> {
            HeatWorks x = new HeatWorks();
            x.still(0, true, 100, 40);
            x.plain(0, 70, 90, 2);
            return x;
        });
    }

    private static void plainToPlain() {
        reach("PLAIN beside PLAIN", () -> {
            HeatWorks x = new HeatWorks();
            x.plain(0, 100, 50, 3);
            x.plain(0, 40, 90, 3);
            return x;
        });
    }

    private static void bentToBent() {
        reach("BENT beside BENT", () -> {
            HeatWorks x = new HeatWorks();
            Bounds.row(x, 0, 2, 20, 3, 10, 1, 5, 7);
            Bounds.row(x, 1, 2, 5, 7, 10, 1, 20, 3);
            x.bent(0, true, 100, 0, 3);
            x.bent(0, false, 55, 1, 3);
            return x;
        });
    }

    /** "BOUGHT HEAT at its warmth less the GAP" */
    private static void boughtHeatReaches() {
        int[] gaps = {1, 10, 200};
        for (int g : gaps) {
            HeatWorks x = new HeatWorks();
            x.gap(g);
            x.still(0, false, 700, 5);
            x.bought(true, 700 + g, 2);
            Check.due("bought heat just above, gap " + g, x.price(), 10);
            x.undo();
            x.bought(true, 699 + g, 2);
            Check.due("bought heat a degree too cold, gap " + g, x.price(), -1);
        }
    }

    private static void boughtHeatReachesAPart() {
        HeatWorks x = new HeatWorks();
        x.plain(0, 0, 100, 1);
        x.bought(true, 109, 1);
        Check.due("a degree of it is too hot", x.price(), -1);
        x.bought(true, 110, 7);
        Check.due("a degree of the dearer", x.price(), 99 + 7);
        x.bought(true, 10, 1);
        Check.due("one at its lower end is of no use", x.price(), 99 + 7);
    }

    /** "BOUGHT COLD at its warmth" */
    private static void boughtColdReaches() {
        int[] gaps = {1, 10, 200};
        for (int g : gaps) {
            HeatWorks x = new HeatWorks();
            x.gap(g);
            x.still(0, true, 700, 5);
            x.bought(false, 700 - g, 2);
            Check.due("bought cold just below, gap " + g, x.price(), 10);
            x.undo();
            x.bought(false, 701 - g, 2);
            Check.due("bought cold a degree too hot, gap " + g, x.price(), -1);
        }
    }

    private static void boughtColdReachesAPart() {
        HeatWorks x = new HeatWorks();
        x.plain(0, 110, 10, 1);
        x.bought(false, 1, 1);
        Check.due("a degree of it is too cold", x.price(), -1);
        x.bought(false, 0, 7);
        Check.due("a degree of the dearer", x.price(), 99 + 7);
        x.bought(false, 100, 1);
        Check.due("one at its upper end is of no use", x.price(), 99 + 7);
    }

    private static void boughtAtTheEnds() {
        HeatWorks x = new HeatWorks();
        x.gap(1);
        x.still(0, false, 1999, 2);
        x.bought(true, 2000, 3);
        Check.due("the hottest that can be warmed", x.price(), 6);
        x.still(0, false, 2000, 2);
        Check.due("2000 can't be warmed", x.price(), -1);
        x = new HeatWorks();
        x.gap(1);
        x.still(0, true, 1, 2);
        x.bought(false, 0, 3);
        Check.due("the coldest that can be cooled", x.price(), 6);
        x.still(0, true, 0, 2);
        Check.due("0 can't be cooled", x.price(), -1);
    }

    // ---- "The least sum of PRICES" ----

    private static void leastAndDearestPrice() {
        int[] prices = {1, 1000};
        for (int p : prices) {
            HeatWorks x = new HeatWorks();
            x.still(0, false, 50, 7);
            x.bought(true, 100, p);
            Check.due("heat for " + p, x.price(), 7 * p);
            x = new HeatWorks();
            x.still(0, true, 50, 7);
            x.bought(false, 0, p);
            Check.due("cold for " + p, x.price(), 7 * p);
        }
    }

    private static void theCheaperOne() {
        HeatWorks x = new HeatWorks();
        x.still(0, false, 50, 7);
        x.bought(true, 100, 5);
        x.bought(true, 60, 4);
        Check.due("the cheaper heat", x.price(), 28);
        x.bought(true, 59, 1);
        Check.due("the cheapest is too cold", x.price(), 28);
        x = new HeatWorks();
        x.still(0, true, 60, 7);
        x.bought(false, 0, 5);
        x.bought(false, 50, 4);
        Check.due("the cheaper cold", x.price(), 28);
        x.bought(false, 51, 1);
        Check.due("the cheapest is too hot", x.price(), 28);
    }

    /** To buy heat for one and cold for the other can be cheaper than to let them meet. */
    private static void dearInAllCheaper() {
        HeatWorks x = new HeatWorks();
        x.still(0, true, 100, 10);
        x.still(0, false, 80, 10);
        x.still(0, false, 20, 10);
        x.bought(true, 40, 1);
        x.bought(true, 150, 9);
        Check.due("the HOT one goes where heat is dear", x.price(), 10);
    }

    // ---- FORBIDDEN ----

    private static void forbiddenPairs() {
        HeatWorks x = new HeatWorks();
        x.still(0, true, 100, 10);
        x.still(0, false, 50, 10);
        Check.due("nothing forbidden", x.price(), 0);
        x.forbid(0, 1, true);
        Check.due("the only pair", x.price(), -1);
        x.bought(true, 200, 2);
        Check.due("heat alone does not help", x.price(), -1);
        x.bought(false, 0, 3);
        Check.due("heat and cold are bought", x.price(), 50);
        x.forbid(0, 1, false);
        Check.due("no more", x.price(), 0);
        x.undo();
        Check.due("undone", x.price(), 50);
    }

    private static void forbiddenBought() {
        HeatWorks x = new HeatWorks();
        x.still(0, false, 50, 10);
        x.bought(true, 200, 2);
        x.bought(true, 200, 5);
        x.forbid(1, 0, true);
        Check.due("the cheaper heat is forbidden", x.price(), 50);
        x.forbid(2, 0, true);
        Check.due("all heat is forbidden", x.price(), -1);
        x = new HeatWorks();
        x.still(0, true, 50, 10);
        x.bought(false, 0, 2);
        x.bought(false, 0, 5);
        x.forbid(0, 1, true);
        Check.due("the cheaper cold is forbidden", x.price(), 50);
        x.forbid(0, 2, true);
        Check.due("all cold is forbidden", x.price(), -1);
        x = new HeatWorks();
        x.bought(true, 200, 2);
        x.bought(false, 0, 5);
        x.forbid(0, 1, true);
        Check.due("bought to bought is forbidden", x.price(), 0);
    }

    /** A FORBIDDEN pair keeps neither of them from others, at LEVELS above and below. */
    private static void forbiddenPartly() {
        HeatWorks x = new HeatWorks();
        x.plain(0, 110, 60, 1);
        x.plain(0, 110, 60, 1);
        x.plain(0, 50, 100, 1);
        x.plain(0, 50, 100, 1);
        x.forbid(0, 2, true);
        Check.due("crosswise", x.price(), 0);
        x.forbid(1, 3, true);
        Check.due("crosswise, both", x.price(), 0);
        x.forbid(0, 3, true);
        x.bought(true, 2000, 1);
        x.bought(false, 0, 1);
        Check.due("one may meet none", x.price(), 100);
    }

    private static void forbiddenOfStreamEleven() {
        HeatWorks x = new HeatWorks();
        for (int i = 0; i < 12; i++) {
            x.still(0, i >= 6, i >= 6 ? 100 : 50, i == 5 || i == 11 ? 9 : 5);
        }
        for (int c = 0; c < 5; c++) {
            x.forbid(11, c, true);
        }
        Check.due("11 has one left", x.price(), 0);
        x.forbid(11, 5, true);
        Check.due("11 has none left", x.price(), -1);
        x.forbid(11, 0, false);
        Check.due("11 has a lesser one left", x.price(), -1);
        x.forbid(11, 4, false);
        Check.due("11 has two lesser ones left", x.price(), 0);
    }

    /** "(3, 4 are of all WORKS ..)", and streams of unlike WORKS warm one another. */
    private static void allWorksTogether() {
        for (int hot = 0; hot < 3; hot++) {
            for (int cold = 0; cold < 3; cold++) {
                HeatWorks x = new HeatWorks();
                x.still(hot, true, 100, 10);
                x.still(cold, false, 50, 12);
                x.bought(true, 200, 2);
                Check.due("work " + hot + " warms " + cold, x.price(), 4);
            }
        }
    }

    // ---- the largest ----

    /** "as much as is wanted": more than an int can tell. */
    private static void asMuchAsIsWanted() {
        HeatWorks x = new HeatWorks();
        for (int i = 0; i < 11; i++) {
            x.plain(i % 3, 0, 1990, 1000);
        }
        x.bought(true, 2000, 1000);
        Check.due("most heat", x.price(), 11L * 1990 * 1000 * 1000);
        x = new HeatWorks();
        for (int i = 0; i < 11; i++) {
            x.plain(i % 3, 2000, 10, 1000);
        }
        x.bought(false, 0, 1000);
        Check.due("most cold", x.price(), 11L * 1990 * 1000 * 1000);
    }

    private static void mostOfAll() {
        HeatWorks x = new HeatWorks();
        for (int i = 0; i < 10; i++) {
            x.plain(i % 3, i < 5 ? 2000 : 0, i < 5 ? 10 : 1990, 1000);
        }
        x.bought(true, 2000, 1000);
        x.bought(false, 0, 1000);
        Check.due("all go to all", x.price(), 0);
        for (int h = 0; h < 5; h++) {
            for (int c = 5; c < 10; c++) {
                x.forbid(h, c, true);
            }
        }
        Check.due("all are bought for", x.price(), 2 * 5L * 1990 * 1000 * 1000);
        x = LinesTest.full();
        Check.due("all 108 levels", x.price(), 0);
        x.gap(12);
        Check.due("all 108 levels, too wide a gap", x.price(), -1);
    }

    /** The largest works asked again and again, with other LEVELS each time. */
    private static void mostOfAllAgain() {
        HeatWorks x = LinesTest.full();
        for (int g = 1; g <= 20; g++) {
            x.gap(g);
            Check.due("all 108 levels, gap " + g, x.price(), g <= 11 ? 0 : -1);
        }
        x.gap(10);
        for (int n = 0; n < 20; n++) {
            Check.due("all 108 levels again", x.price(), 0);
        }
    }

    /** With nothing FORBIDDEN and heat and cold for all, it is LEAST HEAT and LEAST COLD. */
    private static void asLeastHeatTells() {
        int[] gaps = {1, 5, 10, 50, 200};
        for (int g : gaps) {
            HeatWorks x = LinesTest.four();
            x.gap(g);
            x.bought(true, 1000, 3);
            x.bought(false, 0, 7);
            boolean tooCold = x.level(3, x.levels(3) - 1) < 0;
            Check.due("gap " + g, x.price(), tooCold ? -1 : 3 * x.least(3) + 7 * x.cold(3));
        }
    }

    // ---- "-2: it has been asked 40 times" ----

    private static void fortyTimes() {
        HeatWorks x = new HeatWorks();
        for (int i = 1; i <= 40; i++) {
            Check.due("time " + i, x.price(), 0);
        }
        Check.due("time 41", x.price(), -2);
        Check.due("time 42", x.price(), -2);
        Check.due("other questions go on", x.least(3), 0);
    }

    /** NONE is an answer, too; acts, undoing and redoing give no time back. */
    private static void fortyTimesThroughActs() {
        HeatWorks x = new HeatWorks();
        for (int i = 1; i <= 20; i++) {
            x.still(0, true, 100, 1);
            Check.due("time " + (2 * i - 1), x.price(), -1);
            Check.due("undo", x.undo(), 0);
            Check.due("time " + 2 * i, x.price(), 0);
        }
        Check.due("time 41", x.price(), -2);
        x.redo();
        Check.due("time 42", x.price(), -2);
        x.undo();
        x.undo();
        x.bought(true, 50, 5);
        Check.due("time 43", x.price(), -2);
        Check.due("it changed nothing", x.count(2), 1);
    }

    private static void fortyTimesOfEachObject() {
        HeatWorks first = new HeatWorks();
        for (int i = 1; i <= 41; i++) {
            first.price();
        }
        HeatWorks second = new HeatWorks();
        Check.due("another object's first time", second.price(), 0);
        Check.due("the first one's 42nd", first.price(), -2);
    }
}
