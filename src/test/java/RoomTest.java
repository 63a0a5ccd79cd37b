import java.lang.management.ManagementFactory;
import java.util.Random;

/**
 * A run is one object and 512 calls on it. What it makes is counted as what the constructor makes, once, and
 * what the dearest call makes, for every call; and no call throws, whatever its arguments and the state.
 */
public final class RoomTest {
    // A field or an element has a byte at least, an object sixteen: so much makes no more than the room has.
    private static final long ROOM = 7300000;
    private static final long OBJECTS = 600000;
    private static final long CALLS = 512;
    // four calls each, behind the thirty that fill the works
    private static final int ROUNDS = 120;
    private static final long MOST_OF_CONSTRUCTOR = 1000000;
    private static final long MOST_OF_ACT = 2000;
    // questions make nothing, but the machine may make something of its own the first times
    private static final long MOST_OF_QUESTION = 500;
    private static final int TIMES = 3;
    // kept, since asking for it makes objects too
    private static final com.sun.management.ThreadMXBean COUNTER =
            (com.sun.management.ThreadMXBean) ManagementFactory.getThreadMXBean();

    public static void main(String[] args) {
        for (int seed = 0; seed < 40; seed++) {
            room(seed);
        }
        for (int seed = 0; seed < 60; seed++) {
            wild(seed);
        }
        Check.end();
    }

    private static long bytes() {
        return COUNTER.getCurrentThreadAllocatedBytes();
    }

    /** Twelve streams of eight spans each, of which no two bend at one LEVEL. */
    private static HeatWorks full() {
        HeatWorks x = new HeatWorks();
        fill(x);
        return x;
    }

    private static void fill(HeatWorks x) {
        x.sheet(0, 2, 16);
        for (int i = 0; i < 16; i++) {
            x.cell(0, i, i % 2 == 0 ? 150 : 900 + i);
        }
        for (int i = 0; i < 12; i++) {
            x.bent(i % 3, i % 2 == 0, i % 2 == 0 ? 1900 - i : 600 + i, 0, 8);
        }
    }

    /** The least of several like runs, so that what the machine makes for itself is not counted. */
    private static void room(int seed) {
        long[] least = measured(seed);
        for (int n = 1; n < TIMES; n++) {
            long[] again = measured(seed);
            for (int i = 0; i < least.length; i++) {
                least[i] = Math.min(least[i], again[i]);
            }
        }
        String run = "run " + seed;
        long all = least[0] + CALLS * Math.max(least[1], least[2]);
        Check.holds(run + ": its constructor makes " + least[0] + " bytes", least[0] <= MOST_OF_CONSTRUCTOR);
        Check.holds(run + ": an act makes " + least[1] + " bytes", least[1] <= MOST_OF_ACT);
        Check.holds(run + ": a question makes " + least[2] + " bytes", least[2] <= MOST_OF_QUESTION);
        Check.holds(run + ": all makes " + all + " bytes", all <= ROOM && all / 16 <= OBJECTS);
    }

    /** Bytes that one object's constructor makes, the dearest of its acts, the dearest of its questions. */
    private static long[] measured(int seed) {
        Random r = new Random(seed);
        long[] most = new long[3];
        long begin = bytes();
        HeatWorks x = new HeatWorks();
        most[0] = bytes() - begin;
        if (seed % 2 == 1) {
            fill(x);
            Check.due("levels", x.levels(3), 108);
        }
        for (int i = 0; i < ROUNDS; i++) {
            begin = bytes();
            dearAct(i, x);
            most[1] = Math.max(most[1], bytes() - begin);
            begin = bytes();
            dearQuestion(i, x);
            most[2] = Math.max(most[2], bytes() - begin);
            begin = bytes();
            wildAct(r, x);
            most[1] = Math.max(most[1], bytes() - begin);
            begin = bytes();
            wildQuestion(r, x);
            most[2] = Math.max(most[2], bytes() - begin);
        }
        return most;
    }

    private static void dearAct(int i, HeatWorks x) {
        switch (i % 4) {
            case 0 -> x.copy(0, 0, 0, 1, 15);
            case 1 -> x.sheet(1, 2, 16);
            case 2 -> x.forbid(0, 1, i % 8 == 2);
            default -> x.meet(0, 0, 1, 1);
        }
    }

    private static void dearQuestion(int i, HeatWorks x) {
        switch (i % 6) {
            case 0 -> x.price();
            case 1 -> x.fewest(i / 6 % 3 - 1, i / 6 % 2 == 0);
            case 2 -> x.verdict(0);
            case 3 -> x.engine(100, 100, 50, 50);
            case 4 -> x.carrier(0, 1, 900);
            default -> x.closest(0, 0);
        }
    }

    private static int any(Random r) {
        switch (r.nextInt(6)) {
            case 0:
                return r.nextInt();
            case 1:
                return r.nextBoolean() ? Integer.MIN_VALUE : Integer.MAX_VALUE;
            case 2:
                return r.nextInt(2200) - 200;
            default:
                return r.nextInt(14) - 1;
        }
    }

    private static void wild(int seed) {
        Random r = new Random(seed);
        HeatWorks x = seed % 2 == 0 ? new HeatWorks() : full();
        boolean ended = false;
        try {
            for (int i = 0; i < 3000; i++) {
                wildAct(r, x);
                wildQuestion(r, x);
            }
            ended = true;
        } catch (RuntimeException e) {
            System.out.println("seed " + seed + ": " + e);
        }
        Check.holds("seed " + seed + " ended", ended);
    }

    private static void wildAct(Random r, HeatWorks x) {
        switch (r.nextInt(15)) {
            case 0 -> x.sheet(any(r), any(r), any(r));
            case 1 -> x.cell(any(r), any(r), any(r));
            case 2 -> x.tear(any(r));
            case 3 -> x.copy(any(r), any(r), any(r), any(r), any(r));
            case 4 -> x.plain(any(r), any(r), any(r), any(r));
            case 5 -> x.still(any(r), r.nextBoolean(), any(r), any(r));
            case 6 -> x.bent(any(r), r.nextBoolean(), any(r), any(r), any(r));
            case 7 -> x.bought(r.nextBoolean(), any(r), any(r));
            case 8 -> x.gap(any(r));
            case 9 -> x.forbid(any(r), any(r), r.nextBoolean());
            case 10, 11 -> x.meet(any(r), any(r), any(r), any(r));
            case 12 -> x.empty(any(r));
            case 13 -> x.undo();
            default -> x.redo();
        }
    }

    private static void wildQuestion(Random r, HeatWorks x) {
        switch (r.nextInt(17)) {
            case 0 -> x.about(any(r), any(r));
            case 1 -> x.number(any(r), any(r));
            case 2 -> x.least(any(r));
            case 3 -> x.cold(any(r));
            case 4 -> x.pinch(any(r), any(r));
            case 5 -> x.level(any(r), any(r));
            case 6 -> x.levels(any(r));
            case 7 -> x.goesOn(any(r), any(r));
            case 8 -> x.line(any(r), r.nextBoolean(), any(r));
            case 9 -> x.verdict(any(r));
            case 10 -> x.finding(any(r));
            case 11 -> x.closest(any(r), any(r));
            case 12 -> x.price();
            case 13 -> x.fewest(any(r), r.nextBoolean());
            case 14 -> x.engine(any(r), any(r), any(r), any(r));
            case 15 -> x.carrier(any(r), any(r), any(r));
            default -> x.count(any(r));
        }
    }
}
