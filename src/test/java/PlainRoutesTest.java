/** Runs of 512 mixed calls, each answer beside the one of PlainRoutes. */
public final class PlainRoutesTest {
    private static final int CALLS = 512;
    private static final int MOST = 500;

    private final String name;
    private final int from;
    private final int to;
    private final int removes;
    private final RouteTrie trie = new RouteTrie();
    private final PlainRoutes plain = new PlainRoutes();
    private long state;

    /** Only bits from .. to - 1 are ever 1, so that few of them make prefixes meet often. */
    private PlainRoutesTest(int seed, int from, int to, int removes) {
        this.name = "seed " + seed + ", bits " + from + " to " + to + ": ";
        this.from = from;
        this.to = to;
        this.removes = removes;
        this.state = seed * 2654435761L + 12345;
    }

    public static void main(String[] args) {
        int[][] ranges = {{0, 2}, {0, 4}, {0, 7}, {27, 32}, {30, 32}, {14, 20}, {0, 32}};
        for (int seed = 0; seed < 40; seed++) {
            for (int[] range : ranges) {
                new PlainRoutesTest(seed, range[0], range[1], seed % 3 * 15).mixedRun();
            }
        }
        for (int seed = 0; seed < 20; seed++) {
            new PlainRoutesTest(seed, 0, 32, 0).fullRun();
            new PlainRoutesTest(seed, 20, 32, 0).fullRun();
        }
        Due.end();
    }

    private void mixedRun() {
        for (int i = 0; i < CALLS; i++) {
            int kind = below(100);
            if (kind < 40) {
                insert();
            } else if (kind < 40 + removes) {
                remove();
            } else if (kind == 99 && below(4) == 0) {
                trie.init();
                plain.init();
            } else {
                ask(below(8));
            }
        }
    }

    private void fullRun() {
        for (int i = 0; i < MOST; i++) {
            insertFresh();
        }
        for (int i = MOST; i < CALLS; i++) {
            int kind = below(10);
            if (kind < 3) {
                insert();
            } else if (kind < 4) {
                remove();
            } else {
                ask(below(8));
            }
        }
    }

    private void insert() {
        int len = length();
        int bits = prefix(len);
        int hop = below(50) == 0 ? -1 - below(3) : below(1000);
        Due.is(name + "insert(" + bits + ", " + len + ", " + hop + ")",
                trie.insert(bits, len, hop), plain.insert(bits, len, hop));
    }

    private void insertFresh() {
        int len;
        int bits;
        do {
            len = from + 8 + below(to - from - 7);
            bits = prefixOf(len);
        } while (plain.exact(bits, len) >= 0);
        Due.is(name + "insert(" + bits + ", " + len + ", 1)", trie.insert(bits, len, 1), 1);
        plain.insert(bits, len, 1);
    }

    private void remove() {
        int len = length();
        int bits = prefix(len);
        if (plain.count() > 0 && below(3) > 0) {
            int k = below(plain.count());
            bits = plain.route(k, 0);
            len = plain.route(k, 1);
        }
        Due.is(name + "remove(" + bits + ", " + len + ")", trie.remove(bits, len), plain.remove(bits, len));
    }

    private void ask(int kind) {
        int len = length();
        int bits = prefix(len);
        int address = below(8) == 0 ? next() : prefix(32);
        int k = below(plain.count() + 3) - 1;
        int what = below(10) == 0 ? below(9) - 4 : below(3);
        switch (kind) {
            case 0 -> Due.is(name + "lookup(" + address + ")", trie.lookup(address), plain.lookup(address));
            case 1 -> Due.is(name + "lookupLen(" + address + ")", trie.lookupLen(address), plain.lookupLen(address));
            case 2 -> Due.is(name + "exact(" + bits + ", " + len + ")", trie.exact(bits, len), plain.exact(bits, len));
            case 3 -> Due.is(name + "under(" + bits + ", " + len + ")", trie.under(bits, len), plain.under(bits, len));
            case 4 -> Due.is(name + "route(" + k + ", " + what + ")", trie.route(k, what), plain.route(k, what));
            case 5 -> Due.is(name + "count()", trie.count(), plain.count());
            case 6 -> Due.is(name + "nodes()", trie.nodes(), plain.nodes());
            default -> Due.is(name + "depth(" + address + ")", trie.depth(address), plain.depth(address));
        }
    }

    private int length() {
        int kind = below(60);
        if (kind == 0) {
            return below(2) == 0 ? -1 - below(40) : 33 + below(40);
        }
        return kind == 1 ? below(33) : from + below(to - from + 1);
    }

    /** Bits of that length, now and then with some beyond it. */
    private int prefix(int len) {
        return prefixOf(len < 0 || len > 32 || below(60) == 0 ? 32 : len);
    }

    private int prefixOf(int len) {
        int bits = 0;
        for (int i = from; i < to && i < len; i++) {
            bits |= below(2) << (31 - i);
        }
        return bits;
    }

    private int below(int bound) {
        return Math.floorMod(next(), bound);
    }

    private int next() {
        state = state * 6364136223846793005L + 1442695040888963407L;
        return (int) (state >>> 33) ^ (int) (state >>> 17);
    }
}
