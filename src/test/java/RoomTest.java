import java.lang.management.ManagementFactory;
import java.util.Random;

/** All calls of a run live in one room, and no call throws, whatever its arguments and the state. */
public final class RoomTest {
    // some 600,000 objects and 7.3 million fields are allowed: this is far below
    private static final long MOST_BYTES = 4000000;

    private static long[] before = new long[1];

    public static void main(String[] args) {
        runs();
        for (int seed = 0; seed < 60; seed++) {
            wild(seed);
        }
        Check.end();
    }

    private static long bytes() {
        return ((com.sun.management.ThreadMXBean) ManagementFactory.getThreadMXBean()).getCurrentThreadAllocatedBytes();
    }

    private static void begin() {
        before[0] = bytes();
    }

    private static void end(String run) {
        long used = bytes() - before[0];
        Check.holds(run + " used " + used + " bytes", used <= MOST_BYTES);
    }

    /** Twelve streams of eight spans each, of which no two bend at one LEVEL. */
    private static HeatWorks full() {
        HeatWorks x = new HeatWorks();
        x.sheet(0, 2, 16);
        for (int i = 0; i < 16; i++) {
            x.cell(0, i, i % 2 == 0 ? 150 : 900 + i);
        }
        for (int i = 0; i < 12; i++) {
            x.bent(i % 3, i % 2 == 0, i % 2 == 0 ? 1900 - i : 600 + i, 0, 8);
        }
        return x;
    }

    private static void runs() {
        begin();
        HeatWorks x = full();
        for (int i = 0; i < 40; i++) {
            x.price();
        }
        for (int i = 0; i < 400; i++) {
            x.fewest(i % 3 - 1, i % 2 == 0);
        }
        Check.due("levels", x.levels(3), 108);
        end("prices and fewest");
        begin();
        x = full();
        for (int i = 0; i < 480; i++) {
            x.meet(0, 0, 1, 1);
            x.verdict(0);
            x.copy(0, 0, 0, 1, 15);
            x.empty(0);
            x.engine(100, 100, 50, 50);
            x.carrier(0, 1, 900);
        }
        end("acts");
        begin();
        for (int i = 0; i < 512; i++) {
            new HeatWorks();
        }
        end("new objects");
    }

    private static int any(Random r) {
        switch (r.nextInt(6)) {
            case 0:
                return r.nextInt();
            case 1:
                return r.nextBoolean() ? Integer.MIN_VALUE : Integer.MAX_VALUE;
            case 2:
                return r.nextInt(2200) - 200;
            default:
                return r.nextInt(14) - 1;
        }
    }

    private static void wild(int seed) {
        Random r = new Random(seed);
        HeatWorks x = seed % 2 == 0 ? new HeatWorks() : full();
        boolean ended = false;
        try {
            for (int i = 0; i < 3000; i++) {
                wildAct(r, x);
                wildQuestion(r, x);
            }
            ended = true;
        } catch (RuntimeException e) {
            System.out.println("seed " + seed + ": " + e);
        }
        Check.holds("seed " + seed + " ended", ended);
    }

    private static void wildAct(Random r, HeatWorks x) {
        switch (r.nextInt(15)) {
            case 0 -> x.sheet(any(r), any(r), any(r));
            case 1 -> x.cell(any(r), any(r), any(r));
            case 2 -> x.tear(any(r));
            case 3 -> x.copy(any(r), any(r), any(r), any(r), any(r));
            case 4 -> x.plain(any(r), any(r), any(r), any(r));
            case 5 -> x.still(any(r), r.nextBoolean(), any(r), any(r));
            case 6 -> x.bent(any(r), r.nextBoolean(), any(r), any(r), any(r));
            case 7 -> x.bought(r.nextBoolean(), any(r), any(r));
            case 8 -> x.gap(any(r));
            case 9 -> x.forbid(any(r), any(r), r.nextBoolean());
            case 10, 11 -> x.meet(any(r), any(r), any(r), any(r));
            case 12 -> x.empty(any(r));
            case 13 -> x.undo();
            default -> x.redo();
        }
    }

    private static void wildQuestion(Random r, HeatWorks x) {
        switch (r.nextInt(17)) {
            case 0 -> x.about(any(r), any(r));
            case 1 -> x.number(any(r), any(r));
            case 2 -> x.least(any(r));
            case 3 -> x.cold(any(r));
            case 4 -> x.pinch(any(r), any(r));
            case 5 -> x.level(any(r), any(r));
            case 6 -> x.levels(any(r));
            case 7 -> x.goesOn(any(r), any(r));
            case 8 -> x.line(any(r), r.nextBoolean(), any(r));
            case 9 -> x.verdict(any(r));
            case 10 -> x.finding(any(r));
            case 11 -> x.closest(any(r), any(r));
            case 12 -> x.price();
            case 13 -> x.fewest(any(r), r.nextBoolean());
            case 14 -> x.engine(any(r), any(r), any(r), any(r));
            case 15 -> x.carrier(any(r), any(r), any(r));
            default -> x.count(any(r));
        }
    }
}
