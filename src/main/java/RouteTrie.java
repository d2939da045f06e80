/**
 * Routes by prefixes of bits, kept in a tree whose nodes are the routes and the
 * prefixes at which two of them part; the prefix of length 0 is always its root.
 */
public final class RouteTrie {
    public static final int NONE = -1;

    private static final int WIDTH = 32;
    private static final int MOST_ROUTES = 500;

    private static final int WRONG = -1;
    private static final int FULL = -2;
    private static final int CHANGED = 0;
    private static final int NEW = 1;

    private static final int BITS = 0;
    private static final int LENGTH = 1;
    private static final int HOP = 2;

    private final Node root;
    private int nodeCount;

    public RouteTrie() {
        root = new Node(0, 0, NONE);
        nodeCount = 1;
    }

    public void init() {
        root.hop = NONE;
        root.routes = 0;
        root.zero = null;
        root.one = null;
        nodeCount = 1;
    }

    public int insert(int prefix, int len, int hop) {
        if (!isPrefix(prefix, len) || hop < 0) {
            return WRONG;
        }
        Node old = routeAt(prefix, len);
        if (old != null) {
            old.hop = hop;
            return CHANGED;
        }
        if (root.routes >= MOST_ROUTES) {
            return FULL;
        }
        grow(prefix, len, hop);
        return NEW;
    }

    public boolean remove(int prefix, int len) {
        Node found = routeAt(prefix, len);
        if (found == null) {
            return false;
        }
        cut(found);
        return true;
    }

    public int lookup(int address) {
        Node best = longestRoute(address);
        return best == null ? NONE : best.hop;
    }

    public int lookupLen(int address) {
        Node best = longestRoute(address);
        return best == null ? NONE : best.len;
    }

    public int exact(int prefix, int len) {
        Node found = routeAt(prefix, len);
        return found == null ? NONE : found.hop;
    }

    public int under(int prefix, int len) {
        if (!isPrefix(prefix, len)) {
            return WRONG;
        }
        Node top = topmost(prefix, len);
        return top == null ? 0 : top.routes;
    }

    public int route(int k, int what) {
        Node found = inOrder(k);
        if (found == null) {
            return 0;
        }
        switch (what) {
            case BITS:
                return found.bits;
            case LENGTH:
                return found.len;
            case HOP:
                return found.hop;
            default:
                return 0;
        }
    }

    public int count() {
        return root.routes;
    }

    public int nodes() {
        return nodeCount;
    }

    public int depth(int address) {
        int passed = 0;
        Node at = root;
        while (at != null && at.isBeginOf(address)) {
            passed++;
            at = at.toward(address);
        }
        return passed;
    }

    private static boolean isPrefix(int prefix, int len) {
        return len >= 0 && len <= WIDTH && firstBits(prefix, len) == prefix;
    }

    private static int firstBits(int bits, int len) {
        // A shift by 32 would leave all bits as they are.
        return len == 0 ? 0 : bits & (-1 << (WIDTH - len));
    }

    private static int commonLength(Node a, Node b) {
        int alike = Integer.numberOfLeadingZeros(a.bits ^ b.bits);
        return Math.min(alike, Math.min(a.len, b.len));
    }

    /** The shortest node that begins with a prefix; every other one that does is below it. */
    private Node topmost(int prefix, int len) {
        Node at = root;
        while (at != null && at.len < len) {
            at = at.toward(prefix);
        }
        // The way down looks at the bits where nodes part only, so the others are compared here.
        return at != null && firstBits(at.bits, len) == prefix ? at : null;
    }

    private Node routeAt(int prefix, int len) {
        if (!isPrefix(prefix, len)) {
            return null;
        }
        Node top = topmost(prefix, len);
        return top != null && top.len == len && top.isRoute() ? top : null;
    }

    private Node longestRoute(int address) {
        Node best = null;
        Node at = root;
        while (at != null && at.isBeginOf(address)) {
            if (at.isRoute()) {
                best = at;
            }
            at = at.toward(address);
        }
        return best;
    }

    private Node inOrder(int k) {
        if (k < 0 || k >= root.routes) {
            return null;
        }
        int before = k;
        Node at = root;
        while (at != null) {
            if (at.isRoute()) {
                if (before == 0) {
                    return at;
                }
                before--;
            }
            int inZero = at.zero == null ? 0 : at.zero.routes;
            if (before < inZero) {
                at = at.zero;
            } else {
                before -= inZero;
                at = at.one;
            }
        }
        return null;
    }

    /** Adds a route that is not there yet, and counts it at every node on the way to it. */
    private void grow(int prefix, int len, int hop) {
        Node at = root;
        Node next = at.toward(prefix);
        at.routes++;
        while (next != null && next.len <= len && next.isBeginOf(prefix)) {
            at = next;
            next = at.toward(prefix);
            at.routes++;
        }
        if (at.len == len) {
            at.hop = hop;
        } else {
            at.hang(joined(next, newNode(prefix, len, hop)));
        }
    }

    /** The top of what a new route and the node in its place come to, a fork if neither begins the other. */
    private Node joined(Node old, Node fresh) {
        if (old == null) {
            return fresh;
        }
        int common = commonLength(old, fresh);
        Node top = fresh;
        if (common < fresh.len) {
            top = newNode(firstBits(fresh.bits, common), common, NONE);
            top.hang(fresh);
        }
        top.hang(old);
        top.routes = old.routes + 1;
        return top;
    }

    private Node newNode(int bits, int len, int hop) {
        nodeCount++;
        return new Node(bits, len, hop);
    }

    /** Takes away a route that is there, and with it the nodes that only it kept. */
    private void cut(Node gone) {
        Node grandparent = null;
        Node parent = null;
        Node at = root;
        while (at != null && at != gone) {
            at.routes--;
            grandparent = parent;
            parent = at;
            at = at.toward(gone.bits);
        }
        gone.routes--;
        gone.hop = NONE;
        dropIfIdle(parent, gone);
        // Having lost a child, the parent may no longer part two routes.
        dropIfIdle(grandparent, parent);
    }

    private void dropIfIdle(Node parent, Node node) {
        // The root has no parent and always stays.
        if (parent == null || node == null || node.isRoute()) {
            return;
        }
        if (node.zero != null && node.one != null) {
            return;
        }
        parent.replace(node, node.zero != null ? node.zero : node.one);
        nodeCount--;
    }

    private static final class Node {
        private final int bits;
        private final int len;
        private int hop;
        private int routes;
        private Node zero;
        private Node one;

        private Node(int bits, int len, int hop) {
            this.bits = bits;
            this.len = len;
            this.hop = hop;
            this.routes = hop == NONE ? 0 : 1;
        }

        private boolean isRoute() {
            return hop != NONE;
        }

        private boolean isBeginOf(int address) {
            return firstBits(address, len) == bits;
        }

        private boolean goesToOne(int address) {
            return len < WIDTH && (address >>> (WIDTH - 1 - len) & 1) == 1;
        }

        private Node toward(int address) {
            return goesToOne(address) ? one : zero;
        }

        private void hang(Node child) {
            if (goesToOne(child.bits)) {
                one = child;
            } else {
                zero = child;
            }
        }

        private void replace(Node child, Node other) {
            if (one == child) {
                one = other;
            } else {
                zero = other;
            }
        }
    }
}
