import java.util.ArrayList;
import java.util.List;
import java.util.function.ToIntFunction;

/** "(-1 and -2 change nothing.)", nor does a question: each route and some addresses and prefixes are asked afterwards. */
public final class UnchangedTest {
    private static final int LEAST = Integer.MIN_VALUE;
    private static final int GREATEST = Integer.MAX_VALUE;
    private static final int CALLS = 512;

    private record Call(String text, ToIntFunction<RouteTrie> ask, int due) {
        void dueOf(String when, RouteTrie x) {
            Due.is(when + text, ask.applyAsInt(x), due);
        }
    }

    private final String name;
    private final int[][] rows;
    private final PlainRoutes plain;

    private UnchangedTest(String name, int[][] rows) {
        this.name = name;
        this.rows = rows;
        this.plain = Samples.plainOf(rows);
    }

    public static void main(String[] args) {
        new UnchangedTest("none", new int[0][]).run();
        new UnchangedTest("length 0", new int[][] {{0, 0, 1}}).run();
        new UnchangedTest("seven", Samples.seven()).run();
        new UnchangedTest("five hundred", Samples.fiveHundred()).run();
        Due.end();
    }

    private void run() {
        List<Call> all = everyQuestion();
        for (Call call : callsWithoutEffect()) {
            dueUnchanged(call, all);
        }
    }

    /** An object may be asked a few things only, so as many are made as it takes to ask all. */
    private void dueUnchanged(Call call, List<Call> all) {
        int next = 0;
        while (next < all.size()) {
            RouteTrie x = Samples.trieOf(rows);
            call.dueOf(name + ": ", x);
            for (int used = rows.length + 1; used < CALLS && next < all.size(); used++) {
                all.get(next).dueOf(name + ", after " + call.text + ": ", x);
                next++;
            }
        }
    }

    private List<Call> everyQuestion() {
        List<Call> all = new ArrayList<>();
        all.add(new Call("count()", RouteTrie::count, rows.length));
        all.add(new Call("nodes()", RouteTrie::nodes, plain.nodes()));
        for (int k = 0; k <= rows.length; k++) {
            for (int what = 0; what <= 2; what++) {
                all.add(route(k, what));
            }
        }
        for (int[] r : rows) {
            all.add(exact(r[0], r[1]));
            all.add(under(r[0], r[1]));
        }
        int[] addresses = {0, 1, 5, 0x00010001, 0x0A010105, 0x0F000000, 0x40000000, GREATEST, LEAST, -2, -1};
        for (int a : addresses) {
            all.add(lookup(a));
            all.add(lookupLen(a));
            all.add(depth(a));
        }
        int[] lengths = {0, 1, 2, 8, 24, 31, 32};
        for (int len : lengths) {
            all.add(exact(0, len));
            all.add(under(0, len));
            all.add(under(len == 0 ? 0 : -1 << 32 - len, len));
        }
        return all;
    }

    private List<Call> callsWithoutEffect() {
        List<Call> calls = new ArrayList<>();
        addRefusedInserts(calls);
        addRemovesOfNone(calls);
        addQuestions(calls);
        return calls;
    }

    private void addRefusedInserts(List<Call> calls) {
        int[] wrongLengths = {-1, -32, LEAST, 33, 64, GREATEST};
        for (int len : wrongLengths) {
            calls.add(insert(0, len, 5, -1));
            calls.add(insert(-1, len, 5, -1));
        }
        calls.add(insert(LEAST, 0, 5, -1));
        calls.add(insert(1, 0, 5, -1));
        calls.add(insert(0x0A000001, 8, 5, -1));
        calls.add(insert(0x0A800000, 8, 5, -1));
        calls.add(insert(1, 31, 5, -1));
        calls.add(insert(-1, 31, 5, -1));
        int[] wrongHops = {-1, LEAST};
        for (int hop : wrongHops) {
            calls.add(insert(0, 0, hop, -1));
            calls.add(insert(5, 32, hop, -1));
            // A route of the seven, and where two of them part; routes of the five hundred, and where they part.
            calls.add(insert(0x0A000000, 8, hop, -1));
            calls.add(insert(0xC0000000, 2, hop, -1));
            calls.add(insert(0x00010000, 32, hop, -1));
            calls.add(insert(0x00020000, 15, hop, -1));
        }
        if (rows.length == Samples.MOST) {
            calls.add(insert(0, 0, 5, -2));
            calls.add(insert(5, 32, 5, -2));
            calls.add(insert(-1, 32, 5, -2));
            calls.add(insert(0x00010000, 31, 5, -2));
            calls.add(insert(0x00020000, 15, 5, -2));
            calls.add(insert(LEAST, 1, GREATEST, -2));
        }
    }

    private void addRemovesOfNone(List<Call> calls) {
        int[][] none = {
            {0, -1}, {0, 33}, {0, 64}, {0, LEAST}, {-1, 33}, {-1, 64}, {1, 0}, {LEAST, 0}, {0x0A000001, 8}, {1, 31},
            {5, 32}, {0x0A000000, 7}, {0x0A000000, 9}, {0xC0000000, 2}, {0x00010000, 31}, {0x00020000, 15}, {0, 1},
        };
        for (int[] p : none) {
            calls.add(new Call("remove(" + p[0] + ", " + p[1] + ")", x -> x.remove(p[0], p[1]) ? 1 : 0, 0));
        }
    }

    private void addQuestions(List<Call> calls) {
        int[] some = {0, 5, 0x0A010105, 0x00010001, GREATEST, LEAST, -1};
        for (int a : some) {
            calls.add(lookup(a));
            calls.add(lookupLen(a));
            calls.add(depth(a));
            calls.add(exact(a, 32));
            calls.add(exact(a, 33));
            calls.add(under(a, 32));
            calls.add(under(a, 31));
            calls.add(under(a, -1));
            calls.add(route(a, 0));
            calls.add(route(0, a));
        }
        calls.add(new Call("count()", RouteTrie::count, rows.length));
        calls.add(new Call("nodes()", RouteTrie::nodes, plain.nodes()));
    }

    private static Call insert(int bits, int len, int hop, int due) {
        return new Call("insert(" + bits + ", " + len + ", " + hop + ")", x -> x.insert(bits, len, hop), due);
    }

    private Call lookup(int address) {
        return new Call("lookup(" + address + ")", x -> x.lookup(address), plain.lookup(address));
    }

    private Call lookupLen(int address) {
        return new Call("lookupLen(" + address + ")", x -> x.lookupLen(address), plain.lookupLen(address));
    }

    private Call depth(int address) {
        return new Call("depth(" + address + ")", x -> x.depth(address), plain.depth(address));
    }

    private Call exact(int bits, int len) {
        return new Call("exact(" + bits + ", " + len + ")", x -> x.exact(bits, len), plain.exact(bits, len));
    }

    private Call under(int bits, int len) {
        return new Call("under(" + bits + ", " + len + ")", x -> x.under(bits, len), plain.under(bits, len));
    }

    private Call route(int k, int what) {
        return new Call("route(" + k + ", " + what + ")", x -> x.route(k, what), plain.route(k, what));
    }
}
