/** What several tests begin with: routes, each a row of its bits, its length and its hop, and no routes at all. */
final class Samples {
    static final int MOST = 500;

    private Samples() {
    }

    /** Out of order; two of them part at length 0, at 0xC0000000/2 and at 0/1. */
    static int[][] seven() {
        return new int[][] {
            {0x0A010000, 16, 11}, {-1, 32, 99}, {0x0A010100, 24, 12}, {0, 0, 1},
            {0xC0A80000, 16, 0}, {0x0A000000, 8, 10}, {0x40000000, 4, 40},
        };
    }

    /** As many routes as there may be, none of which begins with another, and all with the highest bit 0. */
    static int[][] fiveHundred() {
        int[][] rows = new int[MOST][];
        for (int i = 0; i < MOST; i++) {
            rows[i] = new int[] {(i + 1) << 16, 32, i + 1};
        }
        return rows;
    }

    static RouteTrie trieOf(int[][] rows) {
        RouteTrie x = new RouteTrie();
        for (int[] r : rows) {
            Due.is("insert(" + r[0] + ", " + r[1] + ", " + r[2] + ") of a sample", x.insert(r[0], r[1], r[2]), 1);
        }
        return x;
    }

    static PlainRoutes plainOf(int[][] rows) {
        PlainRoutes x = new PlainRoutes();
        for (int[] r : rows) {
            x.insert(r[0], r[1], r[2]);
        }
        return x;
    }

    /** Every call, and twice: a question puts nothing there. */
    static void dueNoRoutes(String when, RouteTrie x) {
        int[] addresses = {0, 1, 0x0A000000, 0x0A010105, Integer.MAX_VALUE, Integer.MIN_VALUE, -1};
        for (int again = 0; again < 2; again++) {
            Due.is(when + ", count()", x.count(), 0);
            Due.is(when + ", nodes()", x.nodes(), 1);
            for (int a : addresses) {
                Due.is(when + ", lookup(" + a + ")", x.lookup(a), -1);
                Due.is(when + ", lookupLen(" + a + ")", x.lookupLen(a), -1);
                Due.is(when + ", depth(" + a + ")", x.depth(a), 1);
                Due.is(when + ", exact(" + a + ", 32)", x.exact(a, 32), -1);
                Due.is(when + ", under(" + a + ", 32)", x.under(a, 32), 0);
                Due.is(when + ", remove(" + a + ", 32)", x.remove(a, 32), false);
            }
            for (int what = 0; what <= 2; what++) {
                Due.is(when + ", route(0, " + what + ")", x.route(0, what), 0);
            }
            Due.is(when + ", exact(0, 0)", x.exact(0, 0), -1);
            Due.is(when + ", under(0, 0)", x.under(0, 0), 0);
            Due.is(when + ", exact(0x0A000000, 8)", x.exact(0x0A000000, 8), -1);
            Due.is(when + ", under(0x0A000000, 8)", x.under(0x0A000000, 8), 0);
            Due.is(when + ", remove(0, 0)", x.remove(0, 0), false);
        }
    }
}
