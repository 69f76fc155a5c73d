import java.util.Random;

/** Promises 28 to 34 and 39 to 45: gifts, trades, sets of children, and the rest of what they keep and wish. */
public final class MarketTest {
    private static final String WORTHS = "thing a meant 1 size 0 warm 0 worth 40;thing b meant 1 size 0 warm 0 worth 40;"
            + "thing c meant 0 size 0 warm 0 worth 90;thing d meant 1 size 0 warm 0 worth 10;";
    private static final int[] WORTH = {40, 40, 90, 10, 0};

    public static void main(String[] args) {
        gives();
        trades();
        swaps();
        sets();
        bests();
        wrongChildren();
        byForce();
        Kit.close("MarketTest");
    }

    /** A parish of opened fists: letters of what each keeps (. for nothing) and wishes for (. for none). */
    private static ShutFists opened(String keeps, String wishes) {
        ShutFists x = Kit.parish(WORTHS + "month 0");
        for (int c = 0; c < keeps.length(); c++) {
            String inside = keeps.charAt(c) == '.' ? "none" : "" + keeps.charAt(c);
            String wish = wishes.charAt(c) == '.' ? "" : " wish " + wishes.charAt(c);
            Kit.text(x, "child " + inside + wish).parish();
            Kit.openFist(x, c);
        }
        return x;
    }

    private static void gives() {
        ShutFists x = opened("abba.", "bab.a");
        Kit.due("how many", x.gives(-1), 4);
        int[] to = {1, 0, 2, 4, -1};
        for (int c = 0; c < to.length; c++) {
            Kit.due("gives " + c, x.gives(c), to[c]);
        }
        ShutFists two = opened("aab", ".a.");
        Kit.due("one wish for two", two.gives(-1), 1);
        Kit.due("none behind all", two.gives(0), 1);
        Kit.due("the wish is taken", two.gives(1), -1);
        Kit.due("nobody wishes it", two.gives(2), -1);
        ShutFists shut = Kit.parish("child a;child b wish a");
        Kit.due("those shut give nothing", shut.gives(-1), 0);
        Kit.openFist(shut, 0);
        Kit.due("those shut may get it", shut.gives(0), 1);
    }

    private static void trades() {
        ShutFists x = opened("abc.d", "bc...");
        int[] gets = {1, 2, 2, -1, 4};
        Kit.due("trade 2 keeps the most", x.trade(2), 2);
        Kit.due("ring alone", x.ring(2), 1);
        Kit.due("trade of nothing", x.trade(3), -1);
        Kit.due("ring of nothing", x.ring(3), 0);
        Kit.due("trade 1: c is gone, a is like its own", x.trade(1), 1);
        Kit.due("trade 0: b is gone, as 1 kept it", x.trade(0), 0);
        Kit.due("trade 4", x.trade(4), gets[4]);
        ShutFists ring = opened("abd", "bda");
        for (int c = 0; c < 3; c++) {
            Kit.due("a ring of three", ring.trade(c), (c + 1) % 3);
            Kit.due("a ring of three", ring.ring(c), 3);
        }
        ShutFists worth = opened("dcac", "c.d.");
        Kit.due("1 keeps its c, and 3", worth.trade(1) + 10 * worth.trade(3), 31);
        Kit.due("0 has no c then, but a for its d", worth.trade(0) + 10 * worth.trade(2), 2);
        Kit.due("as two", worth.ring(0) + 10 * worth.ring(1), 12);
        ShutFists wish = opened("ddcc", "c.a.");
        wish.wish(2, 3);
        Kit.due("a wish above worth, of several the least", wish.trade(0) + 10 * wish.trade(2), 2);
        ShutFists high = opened("ad", "d.");
        Kit.text(high, "thing a meant 1 size 0 warm 0 worth 99").parish();
        Kit.due("a wish above the worth of 99", high.trade(0) + 10 * high.trade(1), 1);
        Kit.due("a wish above the worth of 99", high.swap(0, 1), true);
        ShutFists eight = opened("abcdefgh", "bcdefgha");
        for (int c = 0; c < 8; c++) {
            Kit.due("a ring of eight", eight.trade(c), (c + 1) % 8);
            Kit.due("a ring of eight", eight.ring(c), 8);
        }
        ShutFists pair = opened("dca", "cd.");
        Kit.due("a ring of two", pair.trade(0) + 10 * pair.trade(1), 1);
        Kit.due("a ring of two", pair.ring(0) + 10 * pair.ring(1) + 100 * pair.ring(2), 122);
    }

    private static void swaps() {
        ShutFists x = opened("dca.b", "cd...");
        Kit.due("both by wishes", x.swap(0, 1), true);
        Kit.due("both by wishes", x.swap(1, 0), true);
        Kit.due("one alone", x.swap(1, 2), false);
        Kit.due("with nothing", x.swap(0, 3), false);
        Kit.due("with nothing", x.swap(3, 0), false);
        Kit.due("like ones", x.swap(2, 4), false);
        x.wish(2, 1);
        Kit.due("one would, one is alike", x.swap(2, 4), false);
        x.wish(4, 0);
        Kit.due("both would", x.swap(2, 4), true);
        Kit.raises("both are one", IllegalArgumentException.class, () -> x.swap(3, 3) ? 1 : 0);
        Kit.raises("none", IndexOutOfBoundsException.class, () -> x.swap(5, 5) ? 1 : 0);
        Kit.raises("none", IndexOutOfBoundsException.class, () -> x.swap(0, -1) ? 1 : 0);
    }

    private static void sets() {
        ShutFists x = opened("aba.ba", "aa.cc.");
        Kit.due("all", x.all(), 3);
        Kit.due("missing", x.missing(), 248);
        Kit.due("nobody", x.nobody(), 1);
        Kit.due("content", x.content(), 1);
        Kit.due("twins", x.twins(), 4);
        Kit.due("open", x.open(), 63);
        Kit.due("shut", x.shut(), 0);
        x.blow(0);
        Kit.due("all", x.all(), 6);
        Kit.due("twins", x.twins(), 2);
        Kit.due("content", x.content(), 0);
        x.wish(3, -1);
        Kit.due("no wish and nothing is no content", x.content(), 0);
        x.birth();
        Kit.due("shut", x.shut(), 64);
        x.move(6, 1);
        Kit.due("shut in all fingers alone", x.shut(), 0);
        Kit.due("not opened yet", x.open(), 63);
        Kit.text(x, "child a").parish();
        Kit.due("knotted", x.knotted(), 0);
        x.move(6, 1);
        Kit.text(x, "knot 6 7").parish();
        Kit.due("knotted", x.knotted(), 192);
        for (int t = 0; t < 7; t++) {
            x.wish(t, t);
        }
        Kit.due("nobody", x.nobody(), 7);
        x.wish(7, 7);
        Kit.due("nobody, of several the least", x.nobody(), 0);
    }

    private static void bests() {
        ShutFists x = opened("dab", "...");
        Kit.due("richest, of several the least", x.richest(), 1);
        x.blow(1);
        Kit.due("richest", x.richest(), 2);
        x.blow(2);
        x.blow(0);
        Kit.due("none", x.richest(), -1);
        Kit.due("oldest of none", x.oldest(), -1);
        Kit.due("the first one is richest", opened("cab", "...").richest(), 0);
        ShutFists worthless = opened(".e", "..");
        Kit.due("a thing of no worth is something", worthless.richest(), 1);
        ShutFists y = Kit.parish("child a age 3;child a age 9;child a age 9;child a");
        Kit.due("oldest, of several the least", y.oldest(), 1);
        Kit.openFist(y, 1);
        Kit.due("oldest not opened", y.oldest(), 2);
        Kit.openFist(y, 2);
        Kit.openFist(y, 0);
        Kit.due("oldest of age 0", y.oldest(), 3);
    }

    private static void wrongChildren() {
        ShutFists x = Kit.parish("child a");
        for (int c : new int[] {1, 8, -2, Integer.MIN_VALUE, Integer.MAX_VALUE}) {
            Kit.raises("gives", IndexOutOfBoundsException.class, () -> x.gives(c));
            Kit.raises("trade", IndexOutOfBoundsException.class, () -> x.trade(c));
            Kit.raises("ring", IndexOutOfBoundsException.class, () -> x.ring(c));
        }
        Kit.raises("trade", IndexOutOfBoundsException.class, () -> x.trade(-1));
        Kit.raises("ring", IndexOutOfBoundsException.class, () -> x.ring(-1));
        Kit.due("gives how many", x.gives(-1), 0);
    }

    /** Gifts and sets against all ways there are; trades against the rule that no set of children would leave them. */
    private static void byForce() {
        Random random = new Random(3);
        for (int run = 0; run < 200; run++) {
            int n = 1 + random.nextInt(8);
            int[] keeps = new int[n];
            int[] wishes = new int[n];
            StringBuilder kept = new StringBuilder();
            StringBuilder wished = new StringBuilder();
            for (int c = 0; c < n; c++) {
                keeps[c] = random.nextInt(6) - 1;
                wishes[c] = Math.max(random.nextInt(7) - 2, -1);
                kept.append(".abcde".charAt(keeps[c] + 1));
                wished.append(".abcde".charAt(wishes[c] + 1));
            }
            ShutFists x = opened(kept.toString(), wished.toString());
            String name = kept + " " + wished;
            int[] best = firstGifts(keeps, wishes);
            for (int c = 0; c < n; c++) {
                Kit.due("gives " + c + " of " + name, x.gives(c), best[c]);
            }
            Kit.due("gives of " + name, x.gives(-1), gifts(best));
            Kit.due("all of " + name, x.all(), leastSet(keeps));
            checkTrade(x, keeps, wishes, name);
            checkSwaps(x, keeps, wishes, name);
        }
    }

    private static int[] firstGifts(int[] keeps, int[] wishes) {
        int[][] best = new int[1][];
        search(keeps, wishes, new int[keeps.length], 0, best);
        return best[0];
    }

    /** Goes through all ways in their order, and keeps the first of those with the most gifts. */
    private static void search(int[] keeps, int[] wishes, int[] way, int c, int[][] best) {
        if (c == way.length) {
            if (best[0] == null || gifts(way) > gifts(best[0])) {
                best[0] = way.clone();
            }
            return;
        }
        for (int i = -1; i <= way.length; i++) {
            int to = i == -1 ? c : i == way.length ? -1 : i;
            if (i == c || to >= 0 && (keeps[c] < 0 || wishes[to] != keeps[c])) {
                continue;
            }
            boolean taken = false;
            for (int b = 0; b < c; b++) {
                taken |= to >= 0 && way[b] == to;
            }
            if (!taken) {
                way[c] = to;
                search(keeps, wishes, way, c + 1, best);
            }
        }
    }

    private static int gifts(int[] way) {
        int given = 0;
        for (int to : way) {
            given += to >= 0 ? 1 : 0;
        }
        return given;
    }

    private static int leastSet(int[] keeps) {
        int best = -1;
        int wanted = things(keeps, (1 << keeps.length) - 1);
        for (int set = 0; set < 1 << keeps.length; set++) {
            boolean all = things(keeps, set) == wanted;
            if (all && (best < 0 || Integer.bitCount(set) < Integer.bitCount(best))) {
                best = set;
            }
        }
        return best;
    }

    private static int things(int[] keeps, int set) {
        int bits = 0;
        for (int c = 0; c < keeps.length; c++) {
            if ((set >> c & 1) != 0 && keeps[c] >= 0) {
                bits |= 1 << keeps[c];
            }
        }
        return bits;
    }

    private static int likes(int[] keeps, int[] wishes, int child, int owner) {
        return keeps[owner] == wishes[child] ? 100 : WORTH[keeps[owner]];
    }

    private static void checkTrade(ShutFists x, int[] keeps, int[] wishes, String name) {
        int[] gets = trade(keeps, wishes);
        for (int c = 0; c < keeps.length; c++) {
            Kit.due("trade " + c + " of " + name, x.trade(c), gets[c]);
            if (gets[c] < 0) {
                Kit.due("ring " + c + " of " + name, x.ring(c), 0);
                continue;
            }
            boolean worse = likes(keeps, wishes, c, gets[c]) < likes(keeps, wishes, c, c);
            Kit.due("none gets what it likes less: " + name, worse, false);
            int length = 1;
            for (int at = gets[c]; at != c; at = gets[at]) {
                length++;
            }
            Kit.due("ring " + c + " of " + name, x.ring(c), length);
        }
    }

    /** One ring at a time, found by walking the pointers from the greatest child that is left. */
    private static int[] trade(int[] keeps, int[] wishes) {
        int[] gets = new int[keeps.length];
        int left = 0;
        for (int c = 0; c < keeps.length; c++) {
            gets[c] = -1;
            left |= keeps[c] >= 0 ? 1 << c : 0;
        }
        while (left != 0) {
            int at = 31 - Integer.numberOfLeadingZeros(left);
            for (int i = 0; i < keeps.length; i++) {
                at = points(keeps, wishes, at, left);
            }
            int stop = at;
            int ring = 0;
            do {
                int to = points(keeps, wishes, at, left);
                gets[at] = to;
                ring |= 1 << at;
                at = to;
            } while (at != stop);
            left &= ~ring;
        }
        return gets;
    }

    private static int points(int[] keeps, int[] wishes, int child, int left) {
        int most = -1;
        int best = -1;
        for (int c = 0; c < keeps.length; c++) {
            if ((left >> c & 1) != 0 && likes(keeps, wishes, child, c) > most) {
                most = likes(keeps, wishes, child, c);
                best = c;
            }
        }
        return likes(keeps, wishes, child, child) == most ? child : best;
    }

    private static void checkSwaps(ShutFists x, int[] keeps, int[] wishes, String name) {
        for (int c = 0; c < keeps.length; c++) {
            for (int d = 0; d < keeps.length; d++) {
                if (c != d) {
                    boolean both = keeps[c] >= 0 && keeps[d] >= 0
                            && likes(keeps, wishes, c, d) > likes(keeps, wishes, c, c)
                            && likes(keeps, wishes, d, c) > likes(keeps, wishes, d, d);
                    Kit.due("swap of " + c + " and " + d + " of " + name, x.swap(c, d), both);
                }
            }
        }
    }
}
