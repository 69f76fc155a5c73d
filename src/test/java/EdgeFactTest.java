import java.util.NoSuchElementException;

/** Promises 7, 8, 49 to 51 and 55, each edge by itself: what is told of things, children, the log, the seed and counts. */
public final class EdgeFactTest {
    private static final String EIGHT = "child a;child b;child c;child d;child e;child f;child g;child h";
    private static final int[] NO_CHILD = {-1, 2, 7, 8, Integer.MIN_VALUE, Integer.MAX_VALUE};
    private static final int[] NO_THING = {-1, 8, 9, Integer.MIN_VALUE, Integer.MAX_VALUE};

    public static void main(String[] args) {
        thingsThatAreNone();
        thingFactsThatAreNone();
        thingOfBothIsNone();
        prices();
        childrenThatAreNone();
        childFactsThatAreNone();
        childOfBothIsNone();
        factsWithout();
        childrenOfAParishThatIsFull();
        loosensNoLessThan0();
        leadsOfNothing();
        wishedWithout();
        shares();
        ledWithout();
        ledOfNone();
        logWithout();
        logFactsThatAreNone();
        logOfAll();
        seeds();
        drawsGoRound();
        countsThatAreNone();
        countsOfNone();
        countsOfAll();
        Kit.close("EdgeFactTest");
    }

    private static ShutFists two() {
        ShutFists x = Kit.parish("thing a meant 1 size 0 warm 0 worth 20;child a age 3 grip 2 wish b;child none;month 8");
        Kit.openFist(x, 1);
        return x;
    }

    private static void thingsThatAreNone() {
        for (int t : NO_THING) {
            Kit.refused("thing " + t, IndexOutOfBoundsException.class, EdgeFactTest::two, x -> x.thing(t, 0));
        }
        Kit.due("the last thing", two().thing(7, 0), 1);
        Kit.due("the first thing", two().thing(0, 3), 20);
    }

    private static void thingFactsThatAreNone() {
        for (int what : new int[] {-1, 5, 6, Integer.MIN_VALUE, Integer.MAX_VALUE}) {
            Kit.refused("thing what " + what, NoSuchElementException.class, EdgeFactTest::two, x -> x.thing(0, what));
        }
        Kit.due("the last fact", two().thing(0, 4), 0);
    }

    private static void thingOfBothIsNone() {
        Kit.raises("the thing is told first", IndexOutOfBoundsException.class, () -> two().thing(8, 5));
        Kit.raises("the thing is told first", IndexOutOfBoundsException.class, () -> two().thing(-1, -1));
    }

    private static void prices() {
        ShutFists x = Kit.parish("thing a meant 0 size 0 warm 0 worth 99;child a;child a;child a;child none");
        Kit.due("no wish, no price", x.thing(0, 4), 0);
        x.wish(0, 0);
        Kit.due("one wish", x.thing(0, 4), 99);
        for (int c = 1; c < 4; c++) {
            x.wish(c, 0);
        }
        Kit.due("four wishes, none keeps it", x.thing(0, 4), 396);
        Kit.openFist(x, 0);
        Kit.due("by 2", x.thing(0, 4), 198);
        Kit.openFist(x, 1);
        Kit.due("by 3", x.thing(0, 4), 132);
        x.wish(3, 1);
        Kit.openFist(x, 2);
        Kit.due("297 by 4, rounded down", x.thing(0, 4), 74);
        Kit.openFist(x, 3);
        Kit.due("nothing is no such thing", x.thing(0, 4), 74);
    }

    private static void childrenThatAreNone() {
        for (int c : NO_CHILD) {
            Kit.refused("child " + c, IndexOutOfBoundsException.class, EdgeFactTest::two, x -> x.child(c, 0));
        }
    }

    private static void childFactsThatAreNone() {
        for (int what : new int[] {-1, 12, 13, Integer.MIN_VALUE, Integer.MAX_VALUE}) {
            Kit.refused("child what " + what, NoSuchElementException.class, EdgeFactTest::two, x -> x.child(1, what));
        }
    }

    private static void childOfBothIsNone() {
        Kit.raises("the child is told first", IndexOutOfBoundsException.class, () -> two().child(2, 12));
        Kit.raises("the child is told first", IndexOutOfBoundsException.class, () -> two().child(-1, -1));
    }

    private static void factsWithout() {
        ShutFists x = Kit.parish("child none");
        Kit.due("nothing inside", x.child(0, 1), 8);
        Kit.due("no wish", x.child(0, 4), -1);
        Kit.due("keeps nothing", x.child(0, 5), -1);
        Kit.due("no knot", x.child(0, 8), -1);
        Kit.due("no share", x.child(0, 11), 0);
        Kit.openFist(x, 0);
        Kit.due("opened on nothing: keeps nothing", x.child(0, 5), -1);
        Kit.due("opened", x.child(0, 7), 1);
        Kit.due("inside stays as it was", x.child(0, 1), 8);
        Kit.due("no finger shut", x.child(0, 2), 0);
    }

    private static void childrenOfAParishThatIsFull() {
        ShutFists x = Kit.parish(EIGHT);
        Kit.due("the last child", x.child(7, 1), 7);
        Kit.raises("child 8", IndexOutOfBoundsException.class, () -> x.child(8, 1));
        Kit.due("all shut", x.shut(), 255);
        for (int c = 0; c < 8; c++) {
            Kit.openFist(x, c);
        }
        Kit.due("all opened", x.open(), 255);
        Kit.due("all kept", x.missing(), 0);
        Kit.due("all children", x.all(), 255);
    }

    private static void loosensNoLessThan0() {
        ShutFists x = Kit.parish("child a grip 2;child a grip 3;child a grip 9;child a grip 1");
        Kit.due("10 less 10", x.child(0, 9), 0);
        Kit.due("10 less 15", x.child(1, 9), 0);
        Kit.due("10 less 45", x.child(2, 9), 0);
        Kit.due("10 less 5", x.child(3, 9), 5);
        Kit.law(x, "grip 4 if child > 2;grip 100 if child < 1");
        Kit.due("10 less 5 less 4", x.child(3, 9), 1);
        Kit.due("far below", x.child(0, 9), 0);
        Kit.law(x, "loosen 36 if grip > 8;loosen 6 if grip < 4;grip 1;grip 1");
        Kit.due("10 and 36 less 45 less 2", x.child(2, 9), 0);
        Kit.due("10 and 6 less 15 less 2", x.child(1, 9), 0);
        Kit.due("10 and 6 less 10 less 2", x.child(0, 9), 4);
    }

    private static void leadsOfNothing() {
        ShutFists x = Kit.parish("thing a meant 1 size 4 warm 4 worth 40;child none;child a");
        Kit.due("worth 0", x.child(0, 10), 0);
        Kit.due("worth 40", x.child(1, 10), 40);
        Kit.law(x, "lead 3 if nothing;lead 5 if size + warm + worth < 1;lead 100 if size > 3 and warm > 3 and worth > 39");
        Kit.due("nothing is of size, warm and worth 0", x.child(0, 10), 8);
        Kit.due("a thing is not", x.child(1, 10), 140);
    }

    private static void wishedWithout() {
        ShutFists x = Kit.parish("child none;child a;child a wish b;child a wish a;child none wish h");
        Kit.law(x, "lead 100 if wished");
        int[] leads = {0, 0, 0, 100, 0};
        for (int c = 0; c < 5; c++) {
            Kit.due("wished by " + c, x.child(c, 10), leads[c]);
        }
    }

    private static void shares() {
        ShutFists x = Kit.parish("thing a meant 1 size 0 warm 0 worth 1;thing b meant 1 size 0 warm 0 worth 99;"
                + "thing c meant 1 size 0 warm 0 worth 2;child a;child b;child c;child none");
        Kit.due("0 without", x.child(0, 11), 0);
        Kit.openFist(x, 3);
        Kit.due("0 of 0", x.child(3, 11), 0);
        Kit.openFist(x, 0);
        Kit.due("all", x.child(0, 11), 100);
        Kit.due("none of it", x.child(3, 11), 0);
        Kit.openFist(x, 2);
        Kit.due("1 of 3", x.child(0, 11), 33);
        Kit.due("2 of 3", x.child(2, 11), 66);
        Kit.openFist(x, 1);
        Kit.due("1 of 102", x.child(0, 11), 0);
        Kit.due("99 of 102", x.child(1, 11), 97);
    }

    private static void ledWithout() {
        ShutFists x = two();
        Kit.due("no row: month", x.led(0, false), -1);
        Kit.due("no row: inside", x.led(0, true), -1);
        Kit.due("a row: month", x.led(1, false), 8);
        Kit.due("a row of nothing", x.led(1, true), 8);
        ShutFists y = Kit.parish("child a");
        Kit.openFist(y, 0);
        Kit.due("month 0", y.led(0, false), 0);
        Kit.due("thing 0", y.led(0, true), 0);
        y.undo();
        Kit.due("the row is undone", y.led(0, true), -1);
    }

    private static void ledOfNone() {
        for (int c : NO_CHILD) {
            Kit.refused("led " + c, IndexOutOfBoundsException.class, EdgeFactTest::two, x -> x.led(c, false));
            Kit.refused("led " + c, IndexOutOfBoundsException.class, EdgeFactTest::two, x -> x.led(c, true));
        }
    }

    private static void logWithout() {
        ShutFists x = two();
        for (int ago : new int[] {-1, 1, 2, 8, 59, 60, 61, Integer.MIN_VALUE, Integer.MAX_VALUE}) {
            for (int what = 0; what < 5; what++) {
                Kit.due("log " + ago + " " + what, x.log(ago, what), -1);
            }
        }
        int[] row = {8, 1, 8, 0, 0};
        for (int what = 0; what < 5; what++) {
            Kit.due("log 0 " + what, x.log(0, what), row[what]);
        }
    }

    private static void logFactsThatAreNone() {
        for (int what : new int[] {-1, 5, 6, Integer.MIN_VALUE, Integer.MAX_VALUE}) {
            Kit.refused("log what " + what, NoSuchElementException.class, EdgeFactTest::two, x -> x.log(0, what));
            Kit.refused("log what " + what + " without a row", NoSuchElementException.class, EdgeFactTest::two, x -> x.log(1, what));
        }
    }

    private static void logOfAll() {
        ShutFists x = Kit.parish(EIGHT + ";month 40");
        for (int c = 7; c >= 0; c--) {
            Kit.openFist(x, c);
            Kit.due("rows", x.count(8), 8 - c);
        }
        for (int c = 0; c < 8; c++) {
            Kit.due("the latest first", x.log(c, 1), c);
            Kit.due("led", x.led(c, true), c);
        }
        Kit.due("none behind all", x.log(8, 1), -1);
        Kit.text(x, "month 3").parish();
        Kit.due("a text leaves the log", x.log(7, 0), 40);
    }

    private static void seeds() {
        ShutFists x = new ShutFists();
        int[] seeds = {0, -1, Integer.MIN_VALUE, Integer.MAX_VALUE, 1};
        int before = 1;
        for (int seed : seeds) {
            Kit.due("what it was", x.seed(seed), before);
            before = seed;
        }
        Kit.due("a seed is no act", x.count(9), 0);
    }

    /** An int that goes round, and of its bits just 16 to 30. */
    private static void drawsGoRound() {
        for (int seed : new int[] {0, 1, 2, -1, 123456789, -987654321, Integer.MIN_VALUE, Integer.MAX_VALUE}) {
            long next = (seed & 0xffffffffL) * 1103515245L + 12345L & 0xffffffffL;
            ShutFists x = new ShutFists();
            x.seed(seed);
            x.birth();
            Kit.due("drawn from " + seed, x.child(0, 1), next / 65536 % 32768 % 9);
            Kit.due("seed behind " + seed, x.seed(0), (int) next);
        }
    }

    private static void countsThatAreNone() {
        for (int what : new int[] {-1, 10, 11, Integer.MIN_VALUE, Integer.MAX_VALUE}) {
            Kit.due("count " + what, two().count(what), -1);
        }
    }

    private static void countsOfNone() {
        ShutFists x = Kit.parish("thing a meant 0 size 0 warm 0 worth 0;thing b meant 0 size 0 warm 0 worth 0;"
                + "thing c meant 0 size 0 warm 0 worth 0;thing d meant 0 size 0 warm 0 worth 0;"
                + "thing e meant 0 size 0 warm 0 worth 0;thing f meant 0 size 0 warm 0 worth 0;"
                + "thing g meant 0 size 0 warm 0 worth 0;thing h meant 0 size 0 warm 0 worth 0;empty 0");
        Kit.due("meant of all", x.count(5), 0);
        Kit.due("empty", x.count(4), 0);
        Kit.due("no law", x.count(2), -1);
        x.law();
        Kit.due("a law of no line", x.count(2), 0);
    }

    private static void countsOfAll() {
        StringBuilder text = new StringBuilder();
        for (char t = 'a'; t <= 'h'; t++) {
            text.append("thing ").append(t).append(" meant 9 size 9 warm 9 worth 99;");
        }
        ShutFists x = Kit.parish(text + "empty 9", EIGHT + ";month 999");
        Kit.law(x, "lead 100;lead 100;lead 100;lead 100;lead 100;lead 100;lead 100;lead 100;lead 100;lead 100");
        Kit.due("fingers", x.count(7), 40);
        for (int c = 0; c < 8; c++) {
            Kit.openFist(x, c);
        }
        int[] counts = {8, 2, 10, 999, 9, 72, 7992, 0, 8, 12};
        for (int what = 0; what < 10; what++) {
            Kit.due("count " + what, x.count(what), counts[what]);
        }
        Kit.due("share of like ones", x.child(7, 11), 12);
    }
}
