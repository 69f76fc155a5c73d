/** Promises 23 to 27 and 46 to 48: months ahead, trials and spans. */
public final class AheadTest {
    public static void main(String[] args) {
        alone();
        edges();
        many();
        laws();
        trials();
        spanSeeds();
        wrongNumbers();
        nothingStays();
        Kit.close("AheadTest");
    }

    private static void alone() {
        ShutFists x = Kit.parish("thing a meant 1 size 0 warm 0 worth 30;child a grip 0");
        Kit.law(x, "loosen 40");
        int[] shut = {31, 30, 28, 24, 16, 0, 0};
        for (int n = 0; n < shut.length; n++) {
            Kit.due("ahead " + n, x.ahead(0, n), shut[n]);
            Kit.due("keep " + n, x.keep(n), n < 5 ? 1 : 0);
            Kit.due("fates " + n, x.fates(n), n < 5 ? 0 : 30);
        }
        Kit.due("waits", x.waits(0), 5);
        Kit.due("next", x.next(), 0);
        Kit.due("last", x.last(), 5);
        x.move(0, 0);
        x.move(0, 3);
        Kit.due("the least of those shut", x.ahead(0, 2), 16);
        Kit.due("waits", x.waits(0), 3);
        Kit.openFist(x, 0);
        Kit.due("waits of an opened one", x.waits(0), 0);
        Kit.due("next", x.next(), -1);
        Kit.due("last", x.last(), -1);
        Kit.due("keep", x.keep(0), 0);
        Kit.due("fates", x.fates(0), 30);
    }

    private static void edges() {
        ShutFists x = Kit.parish("child a grip 0;child b grip 0;child c;knot 0 2");
        Kit.law(x, "loosen 39");
        Kit.due("49 is too little", x.waits(1), -1);
        Kit.law(x, "loosen 40");
        Kit.due("50 is enough", x.waits(1), 5);
        Kit.due("a knot holds", x.waits(0), -1);
        Kit.due("a knot holds", x.ahead(0, 100), 31);
        Kit.due("keep", x.keep(100), 2);
        ShutFists y = Kit.parish("child a grip 0");
        Kit.law(y, "loosen 40 if month > 94");
        Kit.due("the 100th month", y.waits(0), 100);
        Kit.due("the 100th month", y.next(), 0);
        Kit.due("the 100th month", y.last(), 100);
        Kit.due("the 100th month", y.keep(99) + 2 * y.keep(100), 1);
        Kit.law(y, "loosen 40 if month > 95");
        Kit.due("too late", y.waits(0), -1);
        Kit.due("too late", y.next(), -1);
        Kit.due("too late", y.last(), -1);
        Kit.due("all but the little one", y.ahead(0, 100), 16);
    }

    private static void many() {
        ShutFists x = Kit.parish("thing a meant 1 size 0 warm 0 worth 30;thing b meant 1 size 0 warm 0 worth 5;"
                + "child a age 2 grip 0;child b age 4 grip 0;child b grip 0;child a age 4 grip 0;child c grip 9");
        Kit.law(x, "loosen 40 if age > 4;lead 1 if age > 9");
        Kit.due("waits", x.waits(0), 7);
        Kit.due("waits", x.waits(1), 5);
        Kit.due("waits", x.waits(2), 9);
        Kit.due("waits", x.waits(4), -1);
        Kit.due("next, of several the least", x.next(), 1);
        Kit.due("last", x.last(), 9);
        Kit.due("keep", x.keep(5), 3);
        Kit.due("keep", x.keep(7), 2);
        Kit.due("keep", x.keep(100), 1);
        Kit.due("fates", x.fates(5), 35);
        Kit.due("fates", x.fates(9), 70);
        Kit.openFist(x, 1);
        Kit.due("next of those not opened now", x.next(), 3);
        Kit.due("last of those that open ahead", x.last(), 9);
        Kit.openFist(x, 2);
        Kit.due("last", x.last(), 7);
        Kit.due("fates", x.fates(0), 10);
    }

    private static void laws() {
        ShutFists x = Kit.parish("child a grip 0;month 9");
        Kit.law(x, "loosen 40 if shut > 4 or month < 12;lead 9 if month > 12;lead 2 if shut > 0");
        Kit.due("months 9, 10 and 11", x.ahead(0, 100), 24);
        Kit.law(x, "loosen 40;lead 9 if month > 12;lead 70 if month > 13;lead 2 if shut > 0");
        Kit.due("led to in month 13, with none shut", x.fates(5), 9);
    }

    /** Draws from seed 1, modulo 100: 38 58 13 15 51 27 10 19 12 86. */
    private static void trials() {
        ShutFists x = Kit.parish("thing a meant 1 size 0 warm 0 worth 30;child a grip 0");
        Kit.law(x, "loosen 30");
        Kit.due("trial 6", x.trial(6, false), 0);
        Kit.due("trial 7", x.trial(7, false), 1);
        Kit.due("trial 6", x.trial(6, true), 0);
        Kit.due("trial 7", x.trial(7, true), 30);
        Kit.due("the seed stays", x.seed(1), 1);
        for (int n = 0; n <= 30; n += 5) {
            int least = 9;
            int most = 0;
            for (int seed = 1; seed <= 6; seed++) {
                x.seed(seed);
                int opened = Integer.bitCount(x.trial(n, false));
                least = Math.min(least, opened);
                most = Math.max(most, opened);
            }
            x.seed(12345);
            Kit.due("the least of a span of " + n, x.span(n, false), least);
            Kit.due("the most of a span of " + n, x.span(n, true), most);
        }
        ShutFists y = Kit.parish("thing a meant 1 size 0 warm 0 worth 30;child a grip 0;child a grip 0;child a grip 0;"
                + "child a grip 0;knot 2 3");
        Kit.openFist(y, 1);
        Kit.due("trial 0", y.trial(0, false), 2);
        Kit.due("trial 0", y.trial(0, true), 30);
        Kit.due("span 0", y.span(0, false) + 10 * y.span(0, true), 11);
        Kit.law(y, "loosen 40");
        int bits = y.trial(12, false);
        int fate = y.trial(12, true);
        y.months(12);
        Kit.due("as the months then come", y.open(), bits);
        Kit.due("as the months then come", y.count(6), fate);
    }

    /** Where seed 1 or seed 6 alone is the least or the greatest, the span tells it; what seeds 0 and 7 bring does not count. */
    private static void spanSeeds() {
        boolean[] seen = new boolean[8];
        for (int loosen = 0; loosen <= 90; loosen += 3) {
            ShutFists x = Kit.parish("child a grip 0;child a grip 0;child a grip 0;child a grip 0");
            Kit.law(x, "loosen " + loosen);
            for (int n = 5; n <= 45; n += 10) {
                int[] opened = new int[8];
                for (int seed = 0; seed < 8; seed++) {
                    x.seed(seed);
                    opened[seed] = Integer.bitCount(x.trial(n, false));
                }
                int least = opened[1];
                int most = opened[1];
                for (int seed = 2; seed <= 6; seed++) {
                    least = Math.min(least, opened[seed]);
                    most = Math.max(most, opened[seed]);
                }
                seen[0] |= opened[0] < least || opened[0] > most;
                seen[7] |= opened[7] < least || opened[7] > most;
                seen[1] |= isLone(opened, 1);
                seen[6] |= isLone(opened, 6);
                Kit.due("the least", x.span(n, false), least);
                Kit.due("the greatest", x.span(n, true), most);
            }
        }
        Kit.due("each end was seen", seen[0] && seen[1] && seen[6] && seen[7], true);
    }

    private static boolean isLone(int[] opened, int seed) {
        boolean above = true;
        boolean below = true;
        for (int other = 1; other <= 6; other++) {
            above &= other == seed || opened[other] < opened[seed];
            below &= other == seed || opened[other] > opened[seed];
        }
        return above || below;
    }

    private static void wrongNumbers() {
        ShutFists x = Kit.parish("child a");
        for (int n : new int[] {-1, 101, Integer.MIN_VALUE, Integer.MAX_VALUE}) {
            Kit.raises("keep", IllegalArgumentException.class, () -> x.keep(n));
            Kit.raises("fates", IllegalArgumentException.class, () -> x.fates(n));
            Kit.raises("ahead", IllegalArgumentException.class, () -> x.ahead(0, n));
            Kit.raises("ahead of none", IndexOutOfBoundsException.class, () -> x.ahead(1, n));
            Kit.raises("trial", IllegalArgumentException.class, () -> x.trial(n, true));
            Kit.raises("span", IllegalArgumentException.class, () -> x.span(n, true));
        }
        Kit.raises("waits of none", IndexOutOfBoundsException.class, () -> x.waits(1));
        Kit.raises("waits of none", IndexOutOfBoundsException.class, () -> x.waits(-1));
    }

    private static void nothingStays() {
        ShutFists x = Kit.parish("child a grip 0;child b;child c;knot 1 2");
        Kit.law(x, "loosen 90");
        x.trial(100, true);
        x.span(100, true);
        x.waits(0);
        x.next();
        x.last();
        x.fates(100);
        Kit.due("month", x.count(3), 0);
        Kit.due("fingers", x.count(7), 15);
        Kit.due("log", x.count(8), 0);
        Kit.due("acts", x.count(9), 0);
        Kit.due("seed", x.seed(1), 1);
        Kit.due("age", x.child(0, 0), 0);
    }
}
