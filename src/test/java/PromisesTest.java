/** A method for each promise: ordinary inputs, the edges that the document names, and wrong inputs. */
public final class PromisesTest {
    private static final int TOP = Integer.MIN_VALUE;
    private static final int MOST = Samples.MOST;

    public static void main(String[] args) {
        promise1ANewObject();
        promise2Init();
        promise2InitOfAFullObject();
        promise3Insert();
        promise3InsertWrong();
        promise3InsertFull();
        promise4Remove();
        promise4RemoveWhatIsNoRoute();
        promise5Lookup();
        promise6LookupLen();
        promise7Exact();
        promise8Under();
        promise8UnderWrong();
        promise9Route();
        promise9RouteWithoutOne();
        promise10Count();
        promise11Nodes();
        promise11NodesAfterRemove();
        promise11NodesFull();
        promise12Depth();
        promise12DepthAtItsMost();
        Due.end();
    }

    private static void promise1ANewObject() {
        Due.is("NONE", RouteTrie.NONE, -1);
        Samples.dueNoRoutes("new", new RouteTrie());
        RouteTrie other = sample();
        Samples.dueNoRoutes("new beside another", new RouteTrie());
        Due.is("1: the other one's count()", other.count(), 7);
    }

    private static void promise2Init() {
        RouteTrie x = new RouteTrie();
        x.init();
        Samples.dueNoRoutes("init() at once", x);
        x = sample();
        x.init();
        Samples.dueNoRoutes("init()", x);
        x.init();
        Samples.dueNoRoutes("init() twice", x);
        Due.is("2: insert after init()", x.insert(0x0A000000, 8, 77), 1);
        Due.is("2: exact after init()", x.exact(0x0A000000, 8), 77);
        Due.is("2: count after init()", x.count(), 1);
        Due.is("2: nodes after init()", x.nodes(), 2);
    }

    private static void promise2InitOfAFullObject() {
        RouteTrie x = full();
        x.init();
        Due.is("2: count after init() of a full one", x.count(), 0);
        Due.is("2: nodes after init() of a full one", x.nodes(), 1);
        Due.is("2: insert after init() of a full one", x.insert(1, 32, 1), 1);
    }

    private static void promise3Insert() {
        RouteTrie x = new RouteTrie();
        Due.is("3: insert new", x.insert(0x0A000000, 8, 1), 1);
        Due.is("3: insert another hop", x.insert(0x0A000000, 8, 2), 0);
        Due.is("3: exact", x.exact(0x0A000000, 8), 2);
        Due.is("3: insert the same hop", x.insert(0x0A000000, 8, 2), 0);
        Due.is("3: count", x.count(), 1);
        Due.is("3: insert the same bits, longer", x.insert(0x0A000000, 9, 3), 1);
        Due.is("3: insert the same bits, shorter", x.insert(0x0A000000, 7, 4), 1);
        Due.is("3: insert length 0", x.insert(0, 0, 5), 1);
        Due.is("3: insert length 0 again", x.insert(0, 0, 6), 0);
        Due.is("3: insert length 32", x.insert(-1, 32, Integer.MAX_VALUE), 1);
        Due.is("3: insert length 32 again", x.insert(-1, 32, 0), 0);
        Due.is("3: insert length 1", x.insert(TOP, 1, 0), 1);
        Due.is("3: insert length 31", x.insert(2, 31, 0), 1);
        Due.is("3: exact hop 0", x.exact(TOP, 1), 0);
        Due.is("3: count", x.count(), 7);
        Due.is("3: insert where two part only", x.insert(0, 4, 8), 1);
        Due.is("3: exact where two part", x.exact(0, 4), 8);
    }

    private static void promise3InsertWrong() {
        RouteTrie x = sample();
        int nodes = x.nodes();
        Due.is("3: insert length -1", x.insert(0, -1, 1), -1);
        Due.is("3: insert length 33", x.insert(0, 33, 1), -1);
        Due.is("3: insert length 64", x.insert(0, 64, 1), -1);
        Due.is("3: insert the least length", x.insert(0, Integer.MIN_VALUE, 1), -1);
        Due.is("3: insert the greatest length", x.insert(0, Integer.MAX_VALUE, 1), -1);
        Due.is("3: insert a bit beyond 0", x.insert(TOP, 0, 1), -1);
        Due.is("3: insert the lowest bit beyond 0", x.insert(1, 0, 1), -1);
        Due.is("3: insert a bit just beyond 8", x.insert(0x0A800000, 8, 1), -1);
        Due.is("3: insert the lowest bit beyond 8", x.insert(0x0A000001, 8, 1), -1);
        Due.is("3: insert the lowest bit beyond 31", x.insert(1, 31, 1), -1);
        Due.is("3: insert hop -1", x.insert(5, 32, -1), -1);
        Due.is("3: insert the least hop", x.insert(5, 32, Integer.MIN_VALUE), -1);
        Due.is("3: insert hop -1 at a route", x.insert(0x0A000000, 8, -1), -1);
        Due.is("3: the hop stays", x.exact(0x0A000000, 8), 10);
        Due.is("3: the count stays", x.count(), 7);
        Due.is("3: the nodes stay", x.nodes(), nodes);
    }

    private static void promise3InsertFull() {
        RouteTrie x = full();
        int nodes = x.nodes();
        Due.is("3: insert the 501st", x.insert(0, 0, 1), -2);
        Due.is("3: insert the 501st in between", x.insert(0x00010000, 31, 1), -2);
        Due.is("3: insert a wrong one when full", x.insert(1, 31, 1), -1);
        Due.is("3: count when full", x.count(), MOST);
        Due.is("3: nodes when full", x.nodes(), nodes);
        Due.is("3: insert a known one when full", x.insert(0x00010000, 32, 9), 0);
        Due.is("3: remove when full", x.remove(0x00020000, 32), true);
        Due.is("3: insert when one is gone", x.insert(0, 0, 1), 1);
        Due.is("3: insert when full again", x.insert(0x00020000, 32, 1), -2);
    }

    private static void promise4Remove() {
        RouteTrie x = sample();
        Due.is("4: remove", x.remove(0x0A010000, 16), true);
        Due.is("4: remove again", x.remove(0x0A010000, 16), false);
        Due.is("4: exact", x.exact(0x0A010000, 16), -1);
        Due.is("4: lookup falls to the shorter one", x.lookup(0x0A010203), 10);
        Due.is("4: the longer one stays", x.exact(0x0A010100, 24), 12);
        Due.is("4: remove length 0", x.remove(0, 0), true);
        Due.is("4: remove length 0 again", x.remove(0, 0), false);
        Due.is("4: remove length 32", x.remove(-1, 32), true);
        Due.is("4: remove length 32 again", x.remove(-1, 32), false);
        Due.is("4: count", x.count(), 4);
        Due.is("4: insert again", x.insert(0x0A010000, 16, 50), 1);
        Due.is("4: exact again", x.exact(0x0A010000, 16), 50);
        Due.is("4: remove hop 0", x.remove(0xC0A80000, 16), true);
        x.insert(0xF0000000, 4, 60);
        x.insert(0xFF000000, 8, 61);
        Due.is("4: remove one with a longer one below", x.remove(0xF0000000, 4), true);
        Due.is("4: the longer one stays", x.exact(0xFF000000, 8), 61);
    }

    private static void promise4RemoveWhatIsNoRoute() {
        RouteTrie x = new RouteTrie();
        Due.is("4: remove length 0 from none", x.remove(0, 0), false);
        x.insert(0x00000000, 2, 1);
        x.insert(0x40000000, 2, 2);
        Due.is("4: remove where two part", x.remove(0, 1), false);
        Due.is("4: remove the same bits, longer", x.remove(0, 3), false);
        Due.is("4: remove a bit beyond", x.remove(0x40000001, 2), false);
        Due.is("4: remove length -1", x.remove(0, -1), false);
        Due.is("4: remove length 33", x.remove(0, 33), false);
        Due.is("4: remove length 34", x.remove(0, 34), false);
        Due.is("4: count", x.count(), 2);
        Due.is("4: nodes", x.nodes(), 4);
    }

    private static void promise5Lookup() {
        RouteTrie x = sample();
        Due.is("5: lookup the longest of four", x.lookup(0x0A010105), 12);
        Due.is("5: lookup the last address of it", x.lookup(0x0A0101FF), 12);
        Due.is("5: lookup just behind it", x.lookup(0x0A010200), 11);
        Due.is("5: lookup the next shorter", x.lookup(0x0AFF0000), 10);
        Due.is("5: lookup length 0", x.lookup(0x0B000000), 1);
        Due.is("5: lookup length 32", x.lookup(-1), 99);
        Due.is("5: lookup next to it", x.lookup(-2), 1);
        Due.is("5: lookup hop 0", x.lookup(0xC0A80101), 0);
        x.remove(0, 0);
        Due.is("5: lookup none", x.lookup(0x0B000000), -1);
        Due.is("5: lookup none where two part", x.lookup(0x0F000000), -1);
        Due.is("5: lookup none below the highest bit", x.lookup(TOP), -1);
    }

    private static void promise6LookupLen() {
        RouteTrie x = sample();
        Due.is("6: lookupLen the longest of four", x.lookupLen(0x0A010105), 24);
        Due.is("6: lookupLen just behind it", x.lookupLen(0x0A010200), 16);
        Due.is("6: lookupLen the next shorter", x.lookupLen(0x0AFF0000), 8);
        Due.is("6: lookupLen length 0", x.lookupLen(0x0B000000), 0);
        Due.is("6: lookupLen length 32", x.lookupLen(-1), 32);
        Due.is("6: lookupLen hop 0", x.lookupLen(0xC0A80101), 16);
        x.remove(0, 0);
        Due.is("6: lookupLen none", x.lookupLen(0x0B000000), -1);
        Due.is("6: lookupLen none where two part", x.lookupLen(0x0F000000), -1);
    }

    private static void promise7Exact() {
        RouteTrie x = sample();
        Due.is("7: exact", x.exact(0x0A010000, 16), 11);
        Due.is("7: exact hop 0", x.exact(0xC0A80000, 16), 0);
        Due.is("7: exact length 0", x.exact(0, 0), 1);
        Due.is("7: exact length 32", x.exact(-1, 32), 99);
        Due.is("7: exact the same bits, longer", x.exact(0x0A010000, 17), -1);
        Due.is("7: exact the same bits, shorter", x.exact(0x0A000000, 7), -1);
        Due.is("7: exact only an address of one", x.exact(0x0A010105, 32), -1);
        Due.is("7: exact where two part", x.exact(0xC0000000, 2), -1);
        Due.is("7: exact a bit beyond", x.exact(0x0A010001, 16), -1);
        Due.is("7: exact length -1", x.exact(0, -1), -1);
        Due.is("7: exact length 33", x.exact(-1, 33), -1);
        x.remove(0, 0);
        Due.is("7: exact length 0, gone", x.exact(0, 0), -1);
    }

    private static void promise8Under() {
        RouteTrie x = sample();
        Due.is("8: under all", x.under(0, 0), 7);
        Due.is("8: under a route, itself too", x.under(0x0A000000, 8), 3);
        Due.is("8: under between two routes", x.under(0x0A000000, 12), 2);
        Due.is("8: under the last of a row", x.under(0x0A010100, 24), 1);
        Due.is("8: under beyond a route", x.under(0x0A010100, 25), 0);
        Due.is("8: under a prefix of other bits", x.under(0x0B000000, 8), 0);
        Due.is("8: under where two part", x.under(0xC0000000, 2), 2);
        Due.is("8: under the higher half", x.under(TOP, 1), 2);
        Due.is("8: under the lower half", x.under(0, 1), 4);
        Due.is("8: under length 32", x.under(-1, 32), 1);
        Due.is("8: under length 32, none", x.under(-2, 32), 0);
        x.remove(0x0A000000, 8);
        Due.is("8: under without itself", x.under(0x0A000000, 8), 2);
        x.remove(0x0A010100, 24);
        Due.is("8: under with one less", x.under(0x0A000000, 8), 1);
        x.insert(0x0A010000, 16, 3);
        Due.is("8: under after another hop", x.under(0x0A000000, 8), 1);
        Due.is("8: under all of none", new RouteTrie().under(0, 0), 0);
    }

    private static void promise8UnderWrong() {
        RouteTrie x = sample();
        Due.is("8: under length -1", x.under(0, -1), -1);
        Due.is("8: under length 33", x.under(0, 33), -1);
        Due.is("8: under a bit beyond 0", x.under(TOP, 0), -1);
        Due.is("8: under a bit beyond 8", x.under(0x0A000001, 8), -1);
        Due.is("8: under a bit beyond 31", x.under(1, 31), -1);
        Due.is("8: under wrong of none", new RouteTrie().under(1, 31), -1);
    }

    private static void promise9Route() {
        int[][] inOrder = {
            {0, 0, 1}, {0x0A000000, 8, 10}, {0x0A010000, 16, 11}, {0x0A010100, 24, 12},
            {0x40000000, 4, 40}, {0xC0A80000, 16, 0}, {-1, 32, 99},
        };
        RouteTrie x = sample();
        for (int k = 0; k < inOrder.length; k++) {
            for (int what = 0; what < 3; what++) {
                Due.is("9: route(" + k + ", " + what + ")", x.route(k, what), inOrder[k][what]);
            }
        }
        x = new RouteTrie();
        for (int len = 32; len >= 0; len--) {
            x.insert(0, len, len);
        }
        for (int len = 0; len <= 32; len++) {
            Due.is("9: route of the same bits", x.route(len, 1), len);
        }
        x.remove(0, 5);
        Due.is("9: route behind one that is gone", x.route(5, 2), 6);
    }

    private static void promise9RouteWithoutOne() {
        RouteTrie x = new RouteTrie();
        Due.is("9: route of none", x.route(0, 1), 0);
        x.insert(-1, 32, 7);
        Due.is("9: route(0, 0)", x.route(0, 0), -1);
        Due.is("9: route(0, 3)", x.route(0, 3), 0);
        Due.is("9: route(0, -1)", x.route(0, -1), 0);
        Due.is("9: route(0, least)", x.route(0, Integer.MIN_VALUE), 0);
        Due.is("9: route(1, 0)", x.route(1, 0), 0);
        Due.is("9: route(1, 2)", x.route(1, 2), 0);
        Due.is("9: route(-1, 0)", x.route(-1, 0), 0);
        Due.is("9: route(-1, 2)", x.route(-1, 2), 0);
        Due.is("9: route(least, 2)", x.route(Integer.MIN_VALUE, 2), 0);
        Due.is("9: route(greatest, 2)", x.route(Integer.MAX_VALUE, 2), 0);
    }

    private static void promise10Count() {
        RouteTrie x = new RouteTrie();
        x.insert(0, 0, 1);
        Due.is("10: count with length 0", x.count(), 1);
        x.insert(0, 2, 1);
        x.insert(0x40000000, 2, 1);
        Due.is("10: count without where two part", x.count(), 3);
        x.insert(0, 2, 2);
        Due.is("10: count after another hop", x.count(), 3);
        x.insert(1, 2, 2);
        Due.is("10: count after a wrong one", x.count(), 3);
        x.remove(0, 1);
        Due.is("10: count after no remove", x.count(), 3);
        x.remove(0, 0);
        Due.is("10: count after a remove", x.count(), 2);
        Due.is("10: count when full", full().count(), MOST);
    }

    private static void promise11Nodes() {
        RouteTrie x = new RouteTrie();
        Due.is("11: nodes of none", x.nodes(), 1);
        x.insert(0, 0, 1);
        Due.is("11: nodes with length 0", x.nodes(), 1);
        x.insert(0x20000000, 4, 1);
        Due.is("11: nodes with one longer", x.nodes(), 2);
        x.insert(0x30000000, 4, 1);
        Due.is("11: nodes with a parting", x.nodes(), 4);
        x.insert(0x20000000, 3, 1);
        Due.is("11: nodes with a route where two part", x.nodes(), 4);
        x.insert(0x20000000, 3, 2);
        Due.is("11: nodes after another hop", x.nodes(), 4);
        x.insert(TOP, 1, 1);
        Due.is("11: nodes that part at length 0", x.nodes(), 5);
        x.insert(0x24000000, 6, 1);
        Due.is("11: nodes with one below a route", x.nodes(), 6);
        x.insert(0x20000000, 5, 1);
        Due.is("11: nodes with one between two", x.nodes(), 7);
    }

    private static void promise11NodesAfterRemove() {
        RouteTrie x = new RouteTrie();
        x.insert(0x20000000, 4, 1);
        x.insert(0x30000000, 4, 1);
        x.insert(0x20000000, 3, 1);
        x.insert(0x20000000, 8, 1);
        Due.is("11: nodes", x.nodes(), 5);
        x.remove(0x20000000, 4);
        Due.is("11: nodes without one that has one below", x.nodes(), 4);
        x.remove(0x20000000, 3);
        Due.is("11: nodes without a route where two part", x.nodes(), 4);
        x.remove(0x30000000, 4);
        Due.is("11: nodes without one of two that part", x.nodes(), 2);
        x.remove(0x20000000, 8);
        Due.is("11: nodes without the last one", x.nodes(), 1);
        x.insert(0, 32, 1);
        x.insert(1, 32, 1);
        x.insert(0, 31, 1);
        x.remove(1, 32);
        Due.is("11: nodes with a parent that is a route", x.nodes(), 3);
    }

    private static void promise11NodesFull() {
        Due.is("11: nodes of 500 that part", full().nodes(), 2 * MOST);
    }

    private static void promise12Depth() {
        RouteTrie x = new RouteTrie();
        Due.is("12: depth of none", x.depth(0), 1);
        Due.is("12: depth of none, other bits", x.depth(-1), 1);
        x.insert(0, 0, 1);
        Due.is("12: depth with length 0", x.depth(-1), 1);
        x.insert(0x20000000, 4, 1);
        x.insert(0x30000000, 4, 1);
        Due.is("12: depth of one that parts", x.depth(0x20000000), 3);
        Due.is("12: depth of the other one", x.depth(0x3FFFFFFF), 3);
        Due.is("12: depth of neither", x.depth(0x10000000), 1);
        x.insert(0x24000000, 6, 1);
        Due.is("12: depth of the parting only", x.depth(0x2F000000), 3);
        Due.is("12: depth below", x.depth(0x24000000), 4);
        x.remove(0x20000000, 4);
        Due.is("12: depth without one between", x.depth(0x24000000), 3);
        x.remove(0x30000000, 4);
        Due.is("12: depth without a parting", x.depth(0x24000000), 2);
        Due.is("12: depth beside it", x.depth(0x20000000), 1);
    }

    private static void promise12DepthAtItsMost() {
        RouteTrie x = new RouteTrie();
        for (int len = 0; len <= 32; len++) {
            x.insert(len == 0 ? 0 : -1 << (32 - len), len, len);
        }
        Due.is("12: depth of 33 prefixes", x.depth(-1), 33);
        Due.is("12: depth of 32 of them", x.depth(-2), 32);
        Due.is("12: depth of the first of them", x.depth(0), 1);
    }

    private static RouteTrie sample() {
        return Samples.trieOf(Samples.seven());
    }

    private static RouteTrie full() {
        return Samples.trieOf(Samples.fiveHundred());
    }
}
