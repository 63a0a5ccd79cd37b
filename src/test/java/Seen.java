/** All that the questions tell of an object, as one text, in at most 310 calls. */
final class Seen {
    private static final int MOST_LOOKED_AT = 6;

    private Seen() {
    }

    /** Everything, with the acts that can be redone. */
    static String all(HeatWorks x) {
        return "redo " + x.count(3) + " " + state(x);
    }

    /** Everything but the acts that can be redone; verdict() and price() come last, for they leave a trace. */
    static String state(HeatWorks x) {
        StringBuilder b = new StringBuilder();
        for (int what = 0; what < 9; what++) {
            if (what != 3) {
                b.append(x.count(what)).append(' ');
            }
        }
        sheets(x, b);
        streams(x, b);
        lines(x, b);
        nets(x, b);
        b.append(" price ").append(x.price());
        return b.toString();
    }

    private static void sheets(HeatWorks x, StringBuilder b) {
        for (int k = 0; k < 8; k++) {
            b.append(" sheet ").append(k).append(':');
            for (int i = 0; i < 16; i++) {
                b.append(' ').append(x.number(k, i));
            }
        }
    }

    private static void streams(HeatWorks x, StringBuilder b) {
        int n = x.count(0);
        for (int i = 0; i < n; i++) {
            b.append(" stream ").append(i).append(':');
            for (int what = 0; what < 7; what++) {
                b.append(' ').append(x.about(i, what));
            }
        }
    }

    private static void lines(HeatWorks x, StringBuilder b) {
        for (int work = 0; work < 4; work++) {
            b.append(" work ").append(work).append(": ").append(x.least(work)).append(' ').append(x.cold(work));
            b.append(' ').append(x.levels(work)).append(' ').append(x.pinch(work, 0));
        }
        for (int k = 0; k < MOST_LOOKED_AT; k++) {
            b.append(" level ").append(x.level(3, k)).append(' ').append(x.goesOn(3, k));
        }
        b.append(" lines ").append(x.line(3, true, 50)).append(' ').append(x.line(3, false, 50));
        b.append(" fewest ").append(x.fewest(0, false)).append(' ').append(x.fewest(0, true));
        b.append(" engine ").append(x.engine(30, 100, 10, 20)).append(" carrier ").append(x.carrier(0, 1, 70));
    }

    private static void nets(HeatWorks x, StringBuilder b) {
        findings(x, b);
        for (int net = 0; net < 4; net++) {
            for (int k = 0; k < MOST_LOOKED_AT; k++) {
                b.append(" closest ").append(x.closest(net, k));
            }
        }
        findings(x, b);
        for (int net = 0; net < 4; net++) {
            b.append(" verdict ").append(x.verdict(net));
            findings(x, b);
        }
    }

    private static void findings(HeatWorks x, StringBuilder b) {
        b.append(" found:");
        for (int what = 0; what < 4; what++) {
            b.append(' ').append(x.finding(what));
        }
    }
}
