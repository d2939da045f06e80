import java.util.ArrayList;
import java.util.HashSet;
import java.util.List;
import java.util.Set;

/** The promises by their words: a list of routes, and every answer searched for in all of it. */
final class PlainRoutes {
    private record Prefix(int bits, int len) {
        boolean beginsAddress(int address) {
            for (int i = 0; i < len; i++) {
                if (bitAt(address, i) != bitAt(bits, i)) {
                    return false;
                }
            }
            return true;
        }

        boolean begins(Prefix other) {
            return len <= other.len && beginsAddress(other.bits);
        }
    }

    private record Route(Prefix prefix, int hop) {
    }

    private final List<Route> routes = new ArrayList<>();

    void init() {
        routes.clear();
    }

    int insert(int bits, int len, int hop) {
        if (!isPrefix(bits, len) || hop < 0) {
            return -1;
        }
        Prefix prefix = new Prefix(bits, len);
        int at = indexOf(prefix);
        if (at >= 0) {
            routes.set(at, new Route(prefix, hop));
            return 0;
        }
        if (routes.size() == 500) {
            return -2;
        }
        routes.add(new Route(prefix, hop));
        routes.sort((a, b) -> compare(a.prefix, b.prefix));
        return 1;
    }

    boolean remove(int bits, int len) {
        return routes.removeIf(r -> r.prefix.equals(new Prefix(bits, len)));
    }

    int lookup(int address) {
        Route best = longest(address);
        return best == null ? -1 : best.hop;
    }

    int lookupLen(int address) {
        Route best = longest(address);
        return best == null ? -1 : best.prefix.len;
    }

    int exact(int bits, int len) {
        int at = indexOf(new Prefix(bits, len));
        return at < 0 ? -1 : routes.get(at).hop;
    }

    int under(int bits, int len) {
        if (!isPrefix(bits, len)) {
            return -1;
        }
        Prefix prefix = new Prefix(bits, len);
        return (int) routes.stream().filter(r -> prefix.begins(r.prefix)).count();
    }

    int route(int k, int what) {
        if (k < 0 || k >= routes.size()) {
            return 0;
        }
        Route r = routes.get(k);
        return what == 0 ? r.prefix.bits : what == 1 ? r.prefix.len : what == 2 ? r.hop : 0;
    }

    int count() {
        return routes.size();
    }

    int nodes() {
        return 1 + longerPrefixes().size();
    }

    int depth(int address) {
        return 1 + (int) longerPrefixes().stream().filter(p -> p.beginsAddress(address)).count();
    }

    private static int bitAt(int bits, int i) {
        return bits >>> (31 - i) & 1;
    }

    private static boolean isPrefix(int bits, int len) {
        if (len < 0 || len > 32) {
            return false;
        }
        for (int i = len; i < 32; i++) {
            if (bitAt(bits, i) == 1) {
                return false;
            }
        }
        return true;
    }

    private static int compare(Prefix a, Prefix b) {
        int byBits = Integer.compareUnsigned(a.bits, b.bits);
        return byBits != 0 ? byBits : Integer.compare(a.len, b.len);
    }

    private int indexOf(Prefix prefix) {
        for (int i = 0; i < routes.size(); i++) {
            if (routes.get(i).prefix.equals(prefix)) {
                return i;
            }
        }
        return -1;
    }

    private Route longest(int address) {
        Route best = null;
        for (Route r : routes) {
            if (r.prefix.beginsAddress(address) && (best == null || r.prefix.len > best.prefix.len)) {
                best = r;
            }
        }
        return best;
    }

    private Set<Prefix> longerPrefixes() {
        Set<Prefix> all = new HashSet<>();
        for (Route a : routes) {
            for (Route b : routes) {
                all.add(common(a.prefix, b.prefix));
            }
        }
        all.remove(new Prefix(0, 0));
        return all;
    }

    private static Prefix common(Prefix a, Prefix b) {
        int bits = 0;
        int len = 0;
        while (len < a.len && len < b.len && bitAt(a.bits, len) == bitAt(b.bits, len)) {
            bits |= bitAt(a.bits, len) << (31 - len);
            len++;
        }
        return new Prefix(bits, len);
    }
}
