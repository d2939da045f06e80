/** The sentences of the document that name a boundary: a method for each, under the sentence's own words. */
public final class BoundariesTest {
    private static final int TOP = Integer.MIN_VALUE;
    private static final int LEAST = Integer.MIN_VALUE;
    private static final int GREATEST = Integer.MAX_VALUE;
    private static final int MOST = Samples.MOST;
    /** Bits that are now 1 and now 0, so that a wrong shift shows. */
    private static final int MIXED = 0xA5C3961B;
    /** Some of them are right ones again if only their low bits are looked at, as a shift does. */
    private static final int[] WRONG_LENGTHS = {
        -1, -2, -24, -31, -32, -33, -64, -256, LEAST, LEAST + 8, LEAST + 32,
        33, 34, 40, 63, 64, 65, 96, 256, 264, 65544, GREATEST, GREATEST - 23,
    };

    public static void main(String[] args) {
        whatItIs512Calls();
        termsLength0To32();
        termsTheOtherBitsAre0();
        termsAnyIntIsAnAddress();
        termsBeginsWithItsHighestBits();
        termsHop0OrMore();
        termsUpTo500();
        termsUpTo500AtOnce();
        termsEachPrefixOnce();
        termsInOrderWithoutSign();
        termsTheShorterOneFirst();
        termsCommonPrefixOfBitsAlike();
        termsCommonPrefixNoLongerThanEither();
        promise1NoRoutes();
        promise2NoRoutesAgain();
        promise2NoRoutesAgainOfTheMost();
        promise3ANewOne();
        promise3AnotherHopOrTheSame();
        promise3LengthNot0To32();
        promise3ABitBeyondIt();
        promise3HopBelow0();
        promise3The501st();
        promise3WrongBefore501st();
        promise4WhetherItWasThere();
        promise4NoPrefixWasThere();
        promise4TheLastOne();
        promise5LongestOfAllLengths();
        promise5NoneToBeginWith();
        promise6LengthOfThat();
        promise6NoneToBeginWith();
        promise7JustThatRoute();
        promise7NoneIsThere();
        promise8ItItselfToo();
        promise8NoPrefix();
        promise9FirstAndLast();
        promise9NoSuchRoute();
        promise9NoSuchWhat();
        promise10FromNoneToTheMost();
        promise11NoneLongerThan0();
        promise11RoutesAndCommonPrefixes();
        promise12AtLeastLength0();
        promise12AtItsMost();
        Due.end();
    }

    /** "An object is used for at most 512 calls after it has been made". */
    private static void whatItIs512Calls() {
        RouteTrie x = full();
        for (int call = MOST + 1; call < 512; call++) {
            Due.is("512: lookup as call " + call, x.lookup(7 << 16), 7);
        }
        Due.is("512: nodes as the last call", x.nodes(), 2 * MOST);
        x = new RouteTrie();
        for (int call = 1; call <= 512; call += 4) {
            Due.is("512: insert as call " + call, x.insert(0, 32, call), 1);
            Due.is("512: insert of the other half", x.insert(TOP + call, 32, call), 1);
            Due.is("512: remove", x.remove(0, 32), true);
            Due.is("512: remove of the other half", x.remove(TOP + call, 32), true);
        }
        x = new RouteTrie();
        for (int call = 1; call <= 512; call += 4) {
            Due.is("512: insert before init() as call " + call, x.insert(call, 32, 1), 1);
            Due.is("512: insert of another before init()", x.insert(call + 1, 32, 1), 1);
            x.init();
            Due.is("512: count after init()", x.count(), 0);
        }
    }

    /** "A PREFIX has a LENGTH, 0 to 32". */
    private static void termsLength0To32() {
        RouteTrie x = new RouteTrie();
        for (int len = -100; len <= 132; len++) {
            boolean right = len >= 0 && len <= 32;
            Due.is("length: under(0, " + len + ")", x.under(0, len), right ? 0 : -1);
            Due.is("length: insert(0, " + len + ", 1)", x.insert(0, len, 1), right ? 1 : -1);
        }
        Due.is("length: count() of all lengths", x.count(), 33);
    }

    /** "and so many bits, the highest ones of an int, the others of which are 0". */
    private static void termsTheOtherBitsAre0() {
        for (int len = 0; len <= 32; len++) {
            RouteTrie x = new RouteTrie();
            int ones = 0;
            for (int bit = 0; bit < 32; bit++) {
                boolean within = bit < len;
                ones += within ? 1 : 0;
                String call = "(bit " + bit + ", " + len + ")";
                Due.is("bits: under" + call, x.under(TOP >>> bit, len), within ? 0 : -1);
                Due.is("bits: insert" + call, x.insert(TOP >>> bit, len, 1), within ? 1 : -1);
            }
            Due.is("bits: insert all highest, " + len, x.insert(firstOf(-1, len), len, 1), len == 1 ? 0 : 1);
            Due.is("bits: insert all the others, " + len, x.insert(restOf(len), len, 1), len == 32 ? 1 : -1);
            Due.is("bits: count(), " + len, x.count(), len == 1 ? 1 : len == 32 ? 34 : ones + 1);
        }
    }

    /** "An ADDRESS (any int)". */
    private static void termsAnyIntIsAnAddress() {
        int[] addresses = {0, 1, 2, MIXED, GREATEST, GREATEST - 1, LEAST, LEAST + 1, -1, -2};
        RouteTrie all = new RouteTrie();
        all.insert(0, 0, 5);
        RouteTrie halves = new RouteTrie();
        halves.insert(0, 1, 6);
        halves.insert(TOP, 1, 7);
        RouteTrie each = new RouteTrie();
        for (int a : addresses) {
            Due.is("address: insert(" + a + ", 32, ..)", each.insert(a, 32, a & GREATEST), 1);
        }
        for (int a : addresses) {
            Due.is("address: lookup(" + a + ") of all", all.lookup(a), 5);
            Due.is("address: depth(" + a + ") of all", all.depth(a), 1);
            Due.is("address: lookup(" + a + ") of halves", halves.lookup(a), a < 0 ? 7 : 6);
            Due.is("address: lookupLen(" + a + ") of halves", halves.lookupLen(a), 1);
            Due.is("address: depth(" + a + ") of halves", halves.depth(a), 2);
            Due.is("address: lookup(" + a + ") of itself", each.lookup(a), a & GREATEST);
            Due.is("address: lookupLen(" + a + ") of itself", each.lookupLen(a), 32);
        }
    }

    /** "BEGINS with it if its highest bits, so many, are the prefix's". */
    private static void termsBeginsWithItsHighestBits() {
        for (int len = 0; len <= 32; len++) {
            int bits = firstOf(MIXED, len);
            RouteTrie x = new RouteTrie();
            x.insert(bits, len, 3);
            Due.is("begins: the first address of " + len, x.lookup(bits), 3);
            Due.is("begins: the last address of " + len, x.lookup(bits | restOf(len)), 3);
            for (int bit = 0; bit < 32; bit++) {
                int other = MIXED ^ TOP >>> bit;
                String call = "(.. with another bit " + bit + ") of length " + len;
                Due.is("begins: lookup" + call, x.lookup(other), bit < len ? -1 : 3);
                Due.is("begins: lookupLen" + call, x.lookupLen(other), bit < len ? -1 : len);
                Due.is("begins: depth" + call, x.depth(other), bit < len || len == 0 ? 1 : 2);
            }
        }
    }

    /** "ROUTES are prefixes with a HOP (0 or more)". */
    private static void termsHop0OrMore() {
        int[] hops = {0, 1, 31, 32, 33, 500, 501, 65536, GREATEST - 1, GREATEST};
        RouteTrie x = new RouteTrie();
        x.insert(0, 0, 4);
        for (int hop : hops) {
            Due.is("hop: insert(MIXED, 32, " + hop + ")", x.insert(MIXED, 32, hop), 1);
            Due.is("hop: lookup of " + hop, x.lookup(MIXED), hop);
            Due.is("hop: lookupLen of " + hop, x.lookupLen(MIXED), 32);
            Due.is("hop: exact of " + hop, x.exact(MIXED, 32), hop);
            Due.is("hop: under of " + hop, x.under(MIXED, 32), 1);
            Due.is("hop: route of " + hop, x.route(1, 2), hop);
            Due.is("hop: count of " + hop, x.count(), 2);
            Due.is("hop: nodes of " + hop, x.nodes(), 2);
            Due.is("hop: depth of " + hop, x.depth(MIXED), 2);
            Due.is("hop: remove of " + hop, x.remove(MIXED, 32), true);
        }
    }

    /** "up to 500": a call that is refused, or that tells another hop only, takes no place. */
    private static void termsUpTo500() {
        RouteTrie x = new RouteTrie();
        x.insert(1, 31, 1);
        x.insert(0, 33, 1);
        x.insert(1, 32, -1);
        for (int i = 1; i <= MOST; i++) {
            Due.is("500: insert of the " + i + "th", x.insert(i, 32, i), 1);
        }
        Due.is("500: the hop of the first", x.insert(1, 32, 9), 0);
        Due.is("500: the hop of the last", x.insert(MOST, 32, 9), 0);
        Due.is("500: insert of the 501st", x.insert(MOST + 1, 32, 1), -2);
        Due.is("500: remove of the last", x.remove(MOST, 32), true);
        Due.is("500: insert in its place", x.insert(MOST + 1, 32, 1), 1);
        Due.is("500: insert of the 501st again", x.insert(MOST, 32, 1), -2);
        Due.is("500: count", x.count(), MOST);
    }

    /** "up to 500" at once: those that were removed, or were there before init(), take no place. */
    private static void termsUpTo500AtOnce() {
        RouteTrie x = new RouteTrie();
        x.insert(0, 0, 1);
        x.insert(MIXED, 32, 1);
        x.remove(0, 0);
        x.insert(0, 0, 1);
        x.init();
        for (int i = 1; i <= MOST; i++) {
            Due.is("500: insert after init() of the " + i + "th", x.insert(-i, 32, i), 1);
        }
        Due.is("500: insert after init() of the 501st", x.insert(0, 0, 1), -2);
        Due.is("500: count after init()", x.count(), MOST);
    }

    /** "each prefix once". */
    private static void termsEachPrefixOnce() {
        for (int len = 0; len <= 32; len++) {
            int bits = firstOf(MIXED, len);
            RouteTrie x = new RouteTrie();
            Due.is("once: insert of length " + len, x.insert(bits, len, 1), 1);
            Due.is("once: insert again of length " + len, x.insert(bits, len, 2), 0);
            Due.is("once: count of length " + len, x.count(), 1);
            Due.is("once: under of length " + len, x.under(0, 0), 1);
            Due.is("once: the hop of length " + len, x.route(0, 2), 2);
            Due.is("once: no second one of length " + len, x.route(1, 2), 0);
            Due.is("once: remove of length " + len, x.remove(bits, len), true);
            Due.is("once: remove again of length " + len, x.remove(bits, len), false);
        }
    }

    /** "IN ORDER they stand by their bits (without sign)". */
    private static void termsInOrderWithoutSign() {
        int[] inOrder = {0, 1, 2, GREATEST - 1, GREATEST, LEAST, LEAST + 1, MIXED, -2, -1};
        RouteTrie up = new RouteTrie();
        RouteTrie down = new RouteTrie();
        for (int i = 0; i < inOrder.length; i++) {
            up.insert(inOrder[i], 32, i);
            down.insert(inOrder[inOrder.length - 1 - i], 32, i);
        }
        for (int k = 0; k < inOrder.length; k++) {
            Due.is("order: route(" + k + ", 0)", up.route(k, 0), inOrder[k]);
            Due.is("order: route(" + k + ", 2)", up.route(k, 2), k);
            Due.is("order: route(" + k + ", 0), put in from behind", down.route(k, 0), inOrder[k]);
        }
        RouteTrie x = new RouteTrie();
        x.insert(TOP, 1, 1);
        x.insert(GREATEST, 32, 2);
        Due.is("order: a longer one of smaller bits is the first", x.route(0, 2), 2);
        Due.is("order: a shorter one of greater bits is the second", x.route(1, 2), 1);
    }

    /** "of the same bits the shorter one first". */
    private static void termsTheShorterOneFirst() {
        int[] someBits = {0, TOP, 0x00010000, 1};
        for (int bits : someBits) {
            int least = bits == 0 ? 0 : 32 - Integer.numberOfTrailingZeros(bits);
            RouteTrie x = new RouteTrie();
            for (int len = 32; len >= least; len--) {
                Due.is("shorter: insert(" + bits + ", " + len + ", ..)", x.insert(bits, len, len), 1);
            }
            for (int len = least; len <= 32; len++) {
                Due.is("shorter: bits of " + bits + "/" + len, x.route(len - least, 0), bits);
                Due.is("shorter: length of " + bits + "/" + len, x.route(len - least, 1), len);
                Due.is("shorter: hop of " + bits + "/" + len, x.route(len - least, 2), len);
            }
        }
    }

    /** "THE COMMON PREFIX of two is the longest one that both begin with". */
    private static void termsCommonPrefixOfBitsAlike() {
        for (int bit = 0; bit < 32; bit++) {
            for (int len = bit + 1; len <= 32; len++) {
                int a = firstOf(MIXED, len);
                int b = MIXED ^ TOP >>> bit;
                RouteTrie x = new RouteTrie();
                x.insert(a, len, 1);
                x.insert(b, 32, 2);
                String of = " of two that part at bit " + bit + ", one of length " + len;
                int parting = bit == 0 ? 0 : 1;
                Due.is("common: nodes" + of, x.nodes(), 3 + parting);
                Due.is("common: depth" + of + ", at that one", x.depth(a), 2 + parting);
                Due.is("common: depth" + of + ", at the other", x.depth(b), 2 + parting);
                Due.is("common: exact" + of + ", at the parting", x.exact(firstOf(a, bit), bit), -1);
                Due.is("common: insert" + of + ", at the parting", x.insert(firstOf(a, bit), bit, 3), 1);
                Due.is("common: nodes" + of + ", a route there", x.nodes(), 3 + parting);
            }
        }
        RouteTrie x = new RouteTrie();
        x.insert(0x50000000, 8, 1);
        x.insert(0x5F000000, 8, 1);
        Due.is("common: depth at the parting only", x.depth(0x54000000), 2);
        Due.is("common: depth just before the parting", x.depth(0x4FFFFFFF), 1);
        Due.is("common: depth just behind the parting", x.depth(0x60000000), 1);
    }

    /** "(as it is of the bits that both have alike, no longer than either)". */
    private static void termsCommonPrefixNoLongerThanEither() {
        for (int shorter = 0; shorter < 32; shorter++) {
            for (int longer = shorter + 1; longer <= 32; longer++) {
                dueNoFurtherNode(MIXED, shorter, longer);
                dueNoFurtherNode(0, shorter, longer);
                dueNoFurtherNode(-1, shorter, longer);
            }
        }
    }

    private static void dueNoFurtherNode(int bits, int shorter, int longer) {
        RouteTrie down = new RouteTrie();
        down.insert(firstOf(bits, shorter), shorter, 1);
        down.insert(firstOf(bits, longer), longer, 2);
        RouteTrie up = new RouteTrie();
        up.insert(firstOf(bits, longer), longer, 2);
        up.insert(firstOf(bits, shorter), shorter, 1);
        int nodes = shorter == 0 ? 2 : 3;
        String of = " of " + bits + ", " + shorter + " and " + longer;
        Due.is("common: nodes" + of, down.nodes(), nodes);
        Due.is("common: depth" + of, down.depth(bits), nodes);
        Due.is("common: nodes, the longer one first," + of, up.nodes(), nodes);
        Due.is("common: depth, the longer one first," + of, up.depth(bits), nodes);
    }

    /** "RouteTrie(): No routes." */
    private static void promise1NoRoutes() {
        Samples.dueNoRoutes("1: new", new RouteTrie());
        RouteTrie other = full();
        Samples.dueNoRoutes("1: new beside a full one", new RouteTrie());
        Due.is("1: the full one's count", other.count(), MOST);
    }

    /** "void init(): No routes again." */
    private static void promise2NoRoutesAgain() {
        RouteTrie x = new RouteTrie();
        x.init();
        Samples.dueNoRoutes("2: init() of none", x);
        x = new RouteTrie();
        x.insert(0, 0, 1);
        x.init();
        Samples.dueNoRoutes("2: init() of length 0 alone", x);
        x = Samples.trieOf(Samples.seven());
        x.init();
        x.init();
        Samples.dueNoRoutes("2: init() twice", x);
        for (int[] r : Samples.seven()) {
            Due.is("2: insert again", x.insert(r[0], r[1], r[2]), 1);
        }
        Due.is("2: count of those again", x.count(), 7);
        Due.is("2: nodes of those again", x.nodes(), 9);
    }

    /** "No routes again" of 500. */
    private static void promise2NoRoutesAgainOfTheMost() {
        RouteTrie x = full();
        x.init();
        Due.is("2: count of a full one", x.count(), 0);
        Due.is("2: nodes of a full one", x.nodes(), 1);
        Due.is("2: depth of a full one", x.depth(1 << 16), 1);
        Due.is("2: lookup of a full one", x.lookup(1 << 16), -1);
        Due.is("2: under of a full one", x.under(0, 0), 0);
        Due.is("2: route of a full one", x.route(0, 1), 0);
        Due.is("2: remove of a full one", x.remove(1 << 16, 32), false);
        Due.is("2: insert of a full one", x.insert(1 << 16, 32, 2), 1);
    }

    /** "A route: 1 a new one". */
    private static void promise3ANewOne() {
        for (int len = 0; len <= 32; len++) {
            int bits = firstOf(MIXED, len);
            RouteTrie x = new RouteTrie();
            Due.is("3: insert into none of length " + len, x.insert(bits, len, len), 1);
            Due.is("3: exact of length " + len, x.exact(bits, len), len);
            for (int next = 0; next <= 32; next++) {
                Due.is("3: insert of length " + next + " beside " + len,
                        x.insert(firstOf(MIXED, next), next, next), next == len ? 0 : 1);
            }
            Due.is("3: count of all lengths", x.count(), 33);
        }
    }

    /** "0 its hop is another one now (or the same again)". */
    private static void promise3AnotherHopOrTheSame() {
        int[] hops = {0, 0, GREATEST, GREATEST, 1, 0};
        for (int[] r : Samples.seven()) {
            RouteTrie x = Samples.trieOf(Samples.seven());
            for (int hop : hops) {
                Due.is("3: insert again", x.insert(r[0], r[1], hop), 0);
                Due.is("3: exact of another hop", x.exact(r[0], r[1]), hop);
                Due.is("3: lookup of another hop", x.lookup(r[0]), hop);
            }
            Due.is("3: count after other hops", x.count(), 7);
            Due.is("3: nodes after other hops", x.nodes(), 9);
            Due.is("3: under after other hops", x.under(0, 0), 7);
        }
    }

    /** "-1 the length is not 0 .. 32". */
    private static void promise3LengthNot0To32() {
        RouteTrie x = new RouteTrie();
        for (int len : WRONG_LENGTHS) {
            Due.is("3: insert(0, " + len + ", 1)", x.insert(0, len, 1), -1);
            Due.is("3: insert(TOP, " + len + ", 1)", x.insert(TOP, len, 1), -1);
            Due.is("3: insert(-1, " + len + ", 1)", x.insert(-1, len, 1), -1);
            Due.is("3: insert(0, " + len + ", -1)", x.insert(0, len, -1), -1);
        }
        Due.is("3: count after wrong lengths", x.count(), 0);
    }

    /** "or a bit beyond it is 1". */
    private static void promise3ABitBeyondIt() {
        for (int len = 0; len < 32; len++) {
            int bits = firstOf(MIXED, len);
            RouteTrie x = new RouteTrie();
            for (int bit = len; bit < 32; bit++) {
                Due.is("3: insert with bit " + bit + " beyond " + len, x.insert(bits | TOP >>> bit, len, 1), -1);
            }
            Due.is("3: insert with all bits beyond " + len, x.insert(bits | restOf(len), len, 1), -1);
            Due.is("3: count after bits beyond " + len, x.count(), 0);
            Due.is("3: insert with none beyond " + len, x.insert(bits, len, 1), 1);
        }
    }

    /** "or the hop is below 0". */
    private static void promise3HopBelow0() {
        int[] hops = {-1, -2, -500, LEAST + 1, LEAST};
        RouteTrie x = Samples.trieOf(Samples.seven());
        for (int hop : hops) {
            Due.is("3: insert a new one, hop " + hop, x.insert(MIXED, 32, hop), -1);
            Due.is("3: insert where two part, hop " + hop, x.insert(0xC0000000, 2, hop), -1);
            Due.is("3: insert a known one, hop " + hop, x.insert(0x0A000000, 8, hop), -1);
            Due.is("3: insert length 0, hop " + hop, x.insert(0, 0, hop), -1);
        }
        Due.is("3: the known one's hop", x.exact(0x0A000000, 8), 10);
        Due.is("3: the hop of length 0", x.exact(0, 0), 1);
        Due.is("3: count after hops below 0", x.count(), 7);
    }

    /** "-2 it would be the 501st." */
    private static void promise3The501st() {
        RouteTrie x = full();
        Due.is("3: the 501st of length 32", x.insert(MIXED, 32, 1), -2);
        Due.is("3: the 501st of length 0", x.insert(0, 0, 1), -2);
        Due.is("3: the 501st where two part", x.insert(0, 8, 1), -2);
        Due.is("3: the 501st between two", x.insert(1 << 16, 31, 1), -2);
        Due.is("3: a known one of 500", x.insert(500 << 16, 32, 7), 0);
        Due.is("3: count of 500", x.count(), MOST);
        Due.is("3: remove of one of 500", x.remove(1 << 16, 32), true);
        Due.is("3: the 500th again", x.insert(0, 8, 1), 1);
        Due.is("3: the 501st again", x.insert(1 << 16, 32, 1), -2);
    }

    /** What is wrong would not be the 501st: a full object tells it as any other one does. */
    private static void promise3WrongBefore501st() {
        RouteTrie x = full();
        Due.is("3: full, length -1", x.insert(0, -1, 1), -1);
        Due.is("3: full, length 33", x.insert(0, 33, 1), -1);
        Due.is("3: full, a bit beyond", x.insert(1, 31, 1), -1);
        Due.is("3: full, hop -1", x.insert(MIXED, 32, -1), -1);
        Due.is("3: full, hop -1 of a known one", x.insert(1 << 16, 32, -1), -1);
        Due.is("3: full, that one's hop", x.exact(1 << 16, 32), 1);
    }

    /** "A route is removed: whether it was there." */
    private static void promise4WhetherItWasThere() {
        for (int len = 0; len <= 32; len++) {
            int bits = firstOf(MIXED, len);
            RouteTrie x = new RouteTrie();
            Due.is("4: remove from none of length " + len, x.remove(bits, len), false);
            for (int next = 0; next <= 32; next++) {
                x.insert(firstOf(MIXED, next), next, next);
            }
            Due.is("4: remove of length " + len, x.remove(bits, len), true);
            Due.is("4: remove again of length " + len, x.remove(bits, len), false);
            Due.is("4: exact of length " + len, x.exact(bits, len), -1);
            Due.is("4: count without " + len, x.count(), 32);
            Due.is("4: nodes without " + len, x.nodes(), len == 0 ? 33 : 32);
            Due.is("4: depth without " + len, x.depth(MIXED), len == 0 ? 33 : 32);
            Due.is("4: lookupLen without " + len, x.lookupLen(MIXED), len == 32 ? 31 : 32);
            Due.is("4: under of length " + len + " without it", x.under(bits, len), 32 - len);
        }
    }

    /** "whether it was there": what is no prefix, or a prefix where two part only, is no route. */
    private static void promise4NoPrefixWasThere() {
        RouteTrie x = new RouteTrie();
        for (int len = 0; len <= 32; len++) {
            x.insert(0, len, 1);
        }
        for (int len : WRONG_LENGTHS) {
            Due.is("4: remove(0, " + len + ")", x.remove(0, len), false);
        }
        for (int bit = 0; bit < 32; bit++) {
            Due.is("4: remove with bit " + bit + " beyond it", x.remove(TOP >>> bit, bit), false);
            Due.is("4: remove with the lowest bit beyond " + bit, x.remove(1, bit), false);
        }
        Due.is("4: count of all that stay", x.count(), 33);
        x = new RouteTrie();
        x.insert(0x50000000, 4, 1);
        x.insert(0x60000000, 4, 1);
        Due.is("4: remove where two part", x.remove(0x40000000, 2), false);
        Due.is("4: remove at length 0", x.remove(0, 0), false);
        Due.is("4: nodes of both", x.nodes(), 4);
    }

    /** "A route is removed": the last one leaves no routes. */
    private static void promise4TheLastOne() {
        RouteTrie x = Samples.trieOf(Samples.seven());
        for (int[] r : Samples.seven()) {
            Due.is("4: remove, first to last", x.remove(r[0], r[1]), true);
        }
        Samples.dueNoRoutes("4: all removed", x);
        x = Samples.trieOf(Samples.seven());
        for (int i = 6; i >= 0; i--) {
            Due.is("4: remove, last to first", x.remove(Samples.seven()[i][0], Samples.seven()[i][1]), true);
        }
        Samples.dueNoRoutes("4: all removed from behind", x);
        for (int len = 0; len <= 32; len++) {
            x = new RouteTrie();
            x.insert(firstOf(-1, len), len, 0);
            Due.is("4: remove the only one of length " + len, x.remove(firstOf(-1, len), len), true);
            Samples.dueNoRoutes("4: without the only one of length " + len, x);
        }
    }

    /** "The hop of the longest route that an address begins with". */
    private static void promise5LongestOfAllLengths() {
        int[] someBits = {MIXED, ~MIXED, 0, -1};
        for (int bits : someBits) {
            RouteTrie x = allLengths(bits);
            Due.is("5: lookup of length 32", x.lookup(bits), 132);
            for (int bit = 0; bit < 32; bit++) {
                Due.is("5: lookup with another bit " + bit, x.lookup(bits ^ TOP >>> bit), 100 + bit);
            }
        }
    }

    /** "-1 if there is none." */
    private static void promise5NoneToBeginWith() {
        RouteTrie x = new RouteTrie();
        Due.is("5: lookup of no routes", x.lookup(0), -1);
        x.insert(0x50000000, 4, 0);
        x.insert(0x60000000, 4, 0);
        Due.is("5: lookup of none where two part", x.lookup(0x70000000), -1);
        Due.is("5: lookup of none just before", x.lookup(0x4FFFFFFF), -1);
        Due.is("5: lookup of none, the highest bit set", x.lookup(0xD0000000), -1);
        Due.is("5: lookup of hop 0, the last address", x.lookup(0x6FFFFFFF), 0);
        x.remove(0x60000000, 4);
        Due.is("5: lookup of one that is gone", x.lookup(0x60000000), -1);
    }

    /** "The length of that". */
    private static void promise6LengthOfThat() {
        int[] someBits = {MIXED, ~MIXED, 0, -1};
        for (int bits : someBits) {
            RouteTrie x = allLengths(bits);
            Due.is("6: lookupLen of length 32", x.lookupLen(bits), 32);
            for (int bit = 0; bit < 32; bit++) {
                Due.is("6: lookupLen with another bit " + bit, x.lookupLen(bits ^ TOP >>> bit), bit);
            }
        }
    }

    /** "-1 if there is none." (0 is the length of a route that there is.) */
    private static void promise6NoneToBeginWith() {
        RouteTrie x = new RouteTrie();
        Due.is("6: lookupLen of no routes", x.lookupLen(0), -1);
        x.insert(0x50000000, 4, 0);
        x.insert(0x60000000, 4, 0);
        Due.is("6: lookupLen of none where two part", x.lookupLen(0x70000000), -1);
        Due.is("6: lookupLen of none, the highest bit set", x.lookupLen(0xD0000000), -1);
        x.insert(0, 0, 0);
        Due.is("6: lookupLen of length 0", x.lookupLen(0xD0000000), 0);
        x.remove(0, 0);
        Due.is("6: lookupLen of length 0, gone", x.lookupLen(0xD0000000), -1);
    }

    /** "The hop of just that route". */
    private static void promise7JustThatRoute() {
        RouteTrie x = allLengths(MIXED);
        for (int len = 0; len <= 32; len++) {
            Due.is("7: exact of length " + len, x.exact(firstOf(MIXED, len), len), 100 + len);
        }
        for (int len = 1; len <= 32; len++) {
            int beside = firstOf(MIXED, len) ^ TOP >>> len - 1;
            Due.is("7: exact beside length " + len, x.exact(beside, len), -1);
        }
    }

    /** "-1 if there is none": of no routes, of the same bits only, and of what is no prefix. */
    private static void promise7NoneIsThere() {
        RouteTrie x = new RouteTrie();
        Due.is("7: exact of no routes, length 0", x.exact(0, 0), -1);
        Due.is("7: exact of no routes, length 32", x.exact(-1, 32), -1);
        x.insert(0, 16, 5);
        for (int len = 0; len <= 32; len++) {
            Due.is("7: exact(0, " + len + ")", x.exact(0, len), len == 16 ? 5 : -1);
        }
        x = new RouteTrie();
        for (int len = 0; len <= 32; len++) {
            x.insert(0, len, 1);
        }
        for (int len : WRONG_LENGTHS) {
            Due.is("7: exact(0, " + len + ")", x.exact(0, len), -1);
        }
        for (int bit = 0; bit < 32; bit++) {
            Due.is("7: exact with bit " + bit + " beyond it", x.exact(TOP >>> bit, bit), -1);
            Due.is("7: exact with the lowest bit beyond " + bit, x.exact(1, bit), -1);
        }
    }

    /** "How many routes begin with a prefix (it itself, too)". */
    private static void promise8ItItselfToo() {
        RouteTrie x = allLengths(MIXED);
        for (int len = 0; len <= 32; len++) {
            Due.is("8: under of length " + len, x.under(firstOf(MIXED, len), len), 33 - len);
        }
        for (int len = 1; len <= 32; len++) {
            int beside = firstOf(MIXED, len) ^ TOP >>> len - 1;
            Due.is("8: under beside length " + len, x.under(beside, len), 0);
        }
        x = new RouteTrie();
        for (int len = 0; len <= 32; len++) {
            Due.is("8: under of no routes, length " + len, x.under(firstOf(-1, len), len), 0);
        }
        x.insert(0xFFFF0000, 16, 1);
        for (int len = 0; len <= 32; len++) {
            int due = len <= 16 ? 1 : 0;
            Due.is("8: under of one of length 16 at " + len, x.under(firstOf(0xFFFF0000, len), len), due);
        }
        Due.is("8: under of 500", full().under(0, 0), MOST);
        Due.is("8: under of the lower half of 500", full().under(0, 1), MOST);
        Due.is("8: under of the higher half of 500", full().under(TOP, 1), 0);
    }

    /** "-1 if it is none (as for insert())". */
    private static void promise8NoPrefix() {
        RouteTrie[] some = {new RouteTrie(), allLengths(0), allLengths(-1)};
        for (RouteTrie x : some) {
            for (int len : WRONG_LENGTHS) {
                Due.is("8: under(0, " + len + ")", x.under(0, len), -1);
                Due.is("8: under(-1, " + len + ")", x.under(-1, len), -1);
            }
            for (int len = 0; len < 32; len++) {
                Due.is("8: under with the next bit beyond " + len, x.under(TOP >>> len, len), -1);
                Due.is("8: under with the lowest bit beyond " + len, x.under(1, len), -1);
                Due.is("8: under with all bits, length " + len, x.under(-1, len), -1);
            }
        }
    }

    /** "Of the k-th route in order (from 0): what = 0 its bits, 1 its length, 2 its hop". */
    private static void promise9FirstAndLast() {
        RouteTrie x = new RouteTrie();
        x.insert(MIXED, 32, 8);
        Due.is("9: the only one's bits", x.route(0, 0), MIXED);
        Due.is("9: the only one's length", x.route(0, 1), 32);
        Due.is("9: the only one's hop", x.route(0, 2), 8);
        x.insert(0, 0, 9);
        Due.is("9: length 0 is the first", x.route(0, 2), 9);
        Due.is("9: the other one is the second", x.route(1, 0), MIXED);
        x.remove(0, 0);
        Due.is("9: the other one is the first again", x.route(0, 0), MIXED);
        x = full();
        Due.is("9: the first bits of 500", x.route(0, 0), 1 << 16);
        Due.is("9: the first length of 500", x.route(0, 1), 32);
        Due.is("9: the first hop of 500", x.route(0, 2), 1);
        Due.is("9: the last bits of 500", x.route(MOST - 1, 0), MOST << 16);
        Due.is("9: the last length of 500", x.route(MOST - 1, 1), 32);
        Due.is("9: the last hop of 500", x.route(MOST - 1, 2), MOST);
        Due.is("9: none behind the last of 500", x.route(MOST, 2), 0);
    }

    /** "0 if there is none". */
    private static void promise9NoSuchRoute() {
        int[] wrong = {-1, -2, -500, LEAST, LEAST + 1, 33, 34, 499, 500, 501, 65536, GREATEST - 1, GREATEST};
        RouteTrie none = new RouteTrie();
        RouteTrie some = allLengths(-1);
        for (int k : wrong) {
            for (int what = 0; what <= 2; what++) {
                Due.is("9: route(" + k + ", " + what + ") of none", none.route(k, what), 0);
                Due.is("9: route(" + k + ", " + what + ") of 33", some.route(k, what), 0);
            }
        }
        Due.is("9: route(0, 2) of none", none.route(0, 2), 0);
        Due.is("9: route(32, 2) of 33", some.route(32, 2), 132);
        some.remove(-1, 32);
        Due.is("9: route(32, 2) of 32", some.route(32, 2), 0);
        some.insert(-1, 32, -1);
        Due.is("9: route(32, 0) after a refused insert", some.route(32, 0), 0);
    }

    /** "or no such what." */
    private static void promise9NoSuchWhat() {
        int[] wrong = {-1, -2, 3, 4, 5, 32, 33, 256, 258, 65537, LEAST, LEAST + 1, LEAST + 2, GREATEST};
        RouteTrie none = new RouteTrie();
        RouteTrie some = allLengths(-1);
        for (int what : wrong) {
            Due.is("9: route(0, " + what + ") of none", none.route(0, what), 0);
            Due.is("9: route(0, " + what + ")", some.route(0, what), 0);
            Due.is("9: route(32, " + what + ")", some.route(32, what), 0);
            Due.is("9: route(33, " + what + ")", some.route(33, what), 0);
            Due.is("9: route(-1, " + what + ")", some.route(-1, what), 0);
        }
    }

    /** "How many routes there are." */
    private static void promise10FromNoneToTheMost() {
        RouteTrie x = new RouteTrie();
        Due.is("10: count of none", x.count(), 0);
        for (int i = 1; i <= 120; i++) {
            x.insert(i, 32, 0);
            Due.is("10: count of " + i, x.count(), i);
        }
        for (int i = 119; i >= 0; i--) {
            x.remove(i + 1, 32);
            Due.is("10: count of " + i + " again", x.count(), i);
        }
        x = full();
        Due.is("10: count of 500", x.count(), MOST);
        x.insert(0, 0, 1);
        Due.is("10: count of 500 after the 501st", x.count(), MOST);
        x.remove(MOST << 16, 32);
        Due.is("10: count of 499", x.count(), MOST - 1);
    }

    /** "1, and how many different prefixes longer than 0": the one of length 0 is told by the 1 alone. */
    private static void promise11NoneLongerThan0() {
        RouteTrie x = new RouteTrie();
        Due.is("11: nodes of none", x.nodes(), 1);
        x.insert(0, 0, 1);
        Due.is("11: nodes of length 0", x.nodes(), 1);
        x.insert(0, 1, 1);
        Due.is("11: nodes of lengths 0 and 1", x.nodes(), 2);
        x.insert(TOP, 1, 1);
        Due.is("11: nodes of two that part at a route of length 0", x.nodes(), 3);
        x.remove(0, 0);
        Due.is("11: nodes of two that part at length 0", x.nodes(), 3);
        x.remove(0, 1);
        Due.is("11: nodes of the one with the highest bit", x.nodes(), 2);
        x.remove(TOP, 1);
        Due.is("11: nodes of none again", x.nodes(), 1);
    }

    /** "are routes or the common prefix of two routes": each counts once, and goes when it is neither. */
    private static void promise11RoutesAndCommonPrefixes() {
        Due.is("11: nodes of 500 that part below length 0", full().nodes(), 2 * MOST);
        RouteTrie x = new RouteTrie();
        for (int i = 0; i < MOST; i++) {
            x.insert(i << 23, 32, 1);
        }
        Due.is("11: nodes of 500 that part at length 0", x.nodes(), 2 * MOST - 1);
        x = new RouteTrie();
        x.insert(0x50000000, 4, 1);
        x.insert(0x58000000, 5, 1);
        x.insert(0x60000000, 4, 1);
        x.insert(0x70000000, 4, 1);
        Due.is("11: nodes of four that part at two", x.nodes(), 7);
        x.remove(0x50000000, 4);
        Due.is("11: nodes without one that begins another", x.nodes(), 6);
        x.remove(0x58000000, 5);
        Due.is("11: nodes without one side of a parting", x.nodes(), 4);
        x.insert(0x60000000, 3, 1);
        Due.is("11: nodes with a route at a parting", x.nodes(), 4);
        x.remove(0x60000000, 4);
        Due.is("11: nodes with a route that parts none", x.nodes(), 3);
        x.remove(0x60000000, 3);
        Due.is("11: nodes with the last one", x.nodes(), 2);
    }

    /** "How many of these prefixes (and the one of length 0) an address begins with." */
    private static void promise12AtLeastLength0() {
        RouteTrie x = new RouteTrie();
        Due.is("12: depth of none", x.depth(0), 1);
        Due.is("12: depth of none, the highest bit set", x.depth(-1), 1);
        x.insert(0, 0, 1);
        Due.is("12: depth of length 0", x.depth(0), 1);
        x.insert(TOP, 1, 1);
        Due.is("12: depth of an address that begins with no other", x.depth(GREATEST), 1);
        Due.is("12: depth of one with the highest bit", x.depth(LEAST), 2);
        Due.is("12: depth of the last with the highest bit", x.depth(-1), 2);
        x.remove(0, 0);
        Due.is("12: depth without a route of length 0", x.depth(GREATEST), 1);
        x.remove(TOP, 1);
        Due.is("12: depth of none again", x.depth(LEAST), 1);
    }

    /** "How many of these prefixes": 33 at the most, as routes or as mere partings. */
    private static void promise12AtItsMost() {
        int[] someBits = {MIXED, 0, -1};
        for (int bits : someBits) {
            RouteTrie routes = allLengths(bits);
            RouteTrie partings = new RouteTrie();
            partings.insert(bits, 32, 1);
            for (int bit = 0; bit < 32; bit++) {
                partings.insert(bits ^ TOP >>> bit, 32, 1);
            }
            Due.is("12: depth of 33 routes", routes.depth(bits), 33);
            Due.is("12: depth of a route and 32 partings", partings.depth(bits), 33);
            for (int bit = 0; bit < 32; bit++) {
                Due.is("12: depth of routes, another bit " + bit, routes.depth(bits ^ TOP >>> bit), bit + 1);
                Due.is("12: depth of partings, another bit " + bit, partings.depth(bits ^ TOP >>> bit), bit + 2);
            }
        }
    }

    /** The 33 prefixes of an address, each with 100 and its length as its hop. */
    private static RouteTrie allLengths(int address) {
        RouteTrie x = new RouteTrie();
        for (int i = 0; i <= 32; i++) {
            // Neither up nor down: 7 and 33 have no common divisor, so each length comes once.
            int len = i * 7 % 33;
            Due.is("insert of length " + len, x.insert(firstOf(address, len), len, 100 + len), 1);
        }
        return x;
    }

    private static RouteTrie full() {
        return Samples.trieOf(Samples.fiveHundred());
    }

    private static int firstOf(int bits, int len) {
        return bits & ~restOf(len);
    }

    /** 1 in all the bits that a prefix of that length does not have. */
    private static int restOf(int len) {
        return len == 32 ? 0 : -1 >>> len;
    }
}
