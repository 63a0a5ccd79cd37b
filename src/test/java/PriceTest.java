/** Promise 28: price. */
public final class PriceTest {
    public static void main(String[] args) {
        nothing();
        leastOfAll();
        forbidden();
        reach();
        cheapest();
        exchanged();
        dearInAllCheaper();
        askedTooOften();
        large();
        mostPlaces();
        Check.end();
    }

    private static void nothing() {
        HeatWorks x = new HeatWorks();
        Check.due("without streams", x.price(), 0);
        x.bought(true, 200, 3);
        x.bought(false, 0, 3);
        Check.due("bought ones alone", x.price(), 0);
        x.still(0, true, 50, 7);
        Check.due("cold for a hot one", x.price(), 21);
        x.undo();
        x.still(0, false, 50, 8);
        Check.due("heat for a cold one", x.price(), 24);
    }

    private static void leastOfAll() {
        HeatWorks x = LinesTest.four();
        Check.due("nothing to buy", x.price(), -1);
        x.bought(true, 200, 3);
        Check.due("no cold to buy", x.price(), -1);
        x.bought(false, 0, 2);
        Check.due("least heat and least cold", x.price(), 200 * 3 + 600 * 2);
        x.gap(1);
        Check.due("with another gap", x.price(), 3 * x.least(3) + 2 * x.cold(3));
    }

    private static void forbidden() {
        HeatWorks x = new HeatWorks();
        x.still(0, true, 100, 100);
        x.still(1, false, 50, 60);
        x.bought(false, 0, 2);
        x.bought(true, 120, 5);
        Check.due("works trade", x.price(), 80);
        x.forbid(0, 1, true);
        Check.due("hot to cold forbidden", x.price(), 500);
        x.forbid(3, 2, true);
        Check.due("bought to bought", x.price(), 500);
        x.forbid(0, 2, true);
        Check.due("hot to bought cold forbidden", x.price(), -1);
        x.forbid(0, 2, false);
        x.forbid(3, 1, true);
        Check.due("bought heat to cold forbidden", x.price(), -1);
        x.forbid(0, 1, false);
        Check.due("no more", x.price(), 80);
    }

    private static void reach() {
        HeatWorks x = new HeatWorks();
        x.still(0, false, 50, 4);
        x.bought(true, 60, 3);
        Check.due("bought heat at the level", x.price(), 12);
        x.gap(11);
        Check.due("bought heat below it", x.price(), -1);
        x = new HeatWorks();
        x.still(0, true, 100, 4);
        x.bought(false, 90, 3);
        Check.due("bought cold at the level", x.price(), 12);
        x.gap(11);
        Check.due("bought cold above it", x.price(), -1);
        x = new HeatWorks();
        x.still(0, true, 100, 4);
        x.still(0, false, 90, 4);
        Check.due("still to still at one level", x.price(), 0);
        x.gap(11);
        Check.due("still to still above it", x.price(), -1);
        x = new HeatWorks();
        x.plain(0, 100, 60, 2);
        x.still(0, false, 70, 40);
        x.bought(false, 0, 1);
        Check.due("the part above a still one", x.price(), 40);
        x.undo();
        x.undo();
        x.still(0, false, 71, 40);
        x.bought(false, 0, 1);
        Check.due("not enough above it", x.price(), -1);
        x.bought(true, 300, 10);
        Check.due("the rest is bought", x.price(), 2 * 10 + 42);
    }

    private static void cheapest() {
        HeatWorks x = new HeatWorks();
        x.plain(0, 0, 100, 1);
        x.bought(true, 60, 1);
        Check.due("it reaches half", x.price(), -1);
        x.bought(true, 200, 10);
        Check.due("half of each", x.price(), 550);
        x.bought(true, 90, 4);
        Check.due("three of them", x.price(), 50 + 4 * 30 + 10 * 20);
        x.forbid(1, 0, true);
        Check.due("two of them", x.price(), 4 * 80 + 10 * 20);
        x = new HeatWorks();
        x.plain(0, 110, 10, 1);
        x.bought(false, 40, 1);
        x.bought(false, 0, 7);
        Check.due("cold", x.price(), 60 + 7 * 40);
    }

    private static void exchanged() {
        HeatWorks x = new HeatWorks();
        x.still(0, true, 100, 10);
        x.still(0, true, 100, 10);
        x.still(0, false, 50, 10);
        x.still(0, false, 50, 10);
        x.bought(true, 200, 1);
        x.bought(false, 0, 1);
        x.forbid(1, 3, true);
        Check.due("the other one gives", x.price(), 0);
        x.forbid(1, 3, false);
        x.forbid(1, 2, true);
        Check.due("the other one gives", x.price(), 0);
        x.forbid(0, 2, true);
        Check.due("none may give", x.price(), 20);
    }

    /** The hot one may warm a cold one that is cheap to warm, or one that is dear to warm. */
    private static void dearInAllCheaper() {
        HeatWorks x = new HeatWorks();
        x.still(0, true, 100, 10);
        x.still(0, false, 20, 10);
        x.still(0, false, 80, 10);
        x.bought(true, 40, 1);
        x.bought(true, 150, 9);
        Check.due("the dear one is warmed", x.price(), 10);
        x.forbid(0, 2, true);
        Check.due("it may not", x.price(), 90);
        x.bought(false, 0, 50);
        Check.due("as cheap as that", x.price(), 90);
    }

    private static void askedTooOften() {
        HeatWorks x = new HeatWorks();
        x.still(0, true, 100, 10);
        for (int i = 0; i < 40; i++) {
            Check.due("price " + i, x.price(), -1);
            x.undo();
            x.redo();
        }
        Check.due("price 40", x.price(), -2);
        x.undo();
        Check.due("price 41", x.price(), -2);
        Check.due("of another object", new HeatWorks().price(), 0);
    }

    private static void mostPlaces() {
        HeatWorks x = LinesTest.full();
        Check.due("each beside its own", x.price(), 0);
        for (int i = 0; i < 12; i += 2) {
            for (int j = 1; j < 12; j += 2) {
                x.forbid(j, i, j != i + 1);
            }
        }
        Check.due("each beside its own alone", x.price(), 0);
        x.forbid(5, 4, true);
        Check.due("one of them forbidden", x.price(), -1);
    }

    private static void large() {
        HeatWorks x = new HeatWorks();
        for (int i = 0; i < 11; i++) {
            x.plain(i % 3, 0, 1900, 1000);
        }
        x.bought(true, 2000, 1000);
        Check.due("much", x.price(), 11L * 1900 * 1000 * 1000);
    }
}
