/** Promises 28 to 34 and 39 to 45, each edge by itself: gifts, trades, sets of children and the ones of the most. */
public final class EdgeMarketTest {
    private static final int[] NO_CHILD = {-2, 3, 8, Integer.MIN_VALUE, Integer.MAX_VALUE};

    public static void main(String[] args) {
        givesOfNone();
        givesHowMany();
        givesWithoutAnything();
        givesToItself();
        givesToTheLeast();
        givesOneEach();
        givesToThoseNotOpened();
        tradesOfNone();
        tradesOfNothing();
        tradesOfLikeOnes();
        tradesByWorth();
        tradesByWishes();
        tradesOfWorth0();
        tradesOfWhatIsKeptNow();
        swapsOfWhatIsKeptNow();
        ringsOfOneToEight();
        swapsOfNone();
        swapsOfOne();
        swapsOfNothing();
        swapsOfLikeOnes();
        swapsByWishes();
        allOfNone();
        allOfSeveral();
        missingOfNone();
        nobodyOfSeveral();
        shutInAllFingers();
        openedOnes();
        knottedOnes();
        contentOnes();
        richestOfSeveral();
        richestOfNone();
        oldestOfSeveral();
        oldestOfNone();
        twinsOfAll();
        emptyParish();
        Kit.close("EdgeMarketTest");
    }

    /** A parish of opened fists: of each child a letter of what it keeps and one of its wish, a point for none. */
    private static ShutFists opened(String things, String... children) {
        ShutFists x = Kit.parish(things);
        for (int c = 0; c < children.length; c++) {
            char keeps = children[c].charAt(0);
            char wish = children[c].charAt(1);
            Kit.text(x, "child " + (keeps == '.' ? "none" : "" + keeps) + (wish == '.' ? "" : " wish " + wish)).parish();
            Kit.openFist(x, c);
        }
        return x;
    }

    private static String worth(char thing, int worth) {
        return "thing " + thing + " meant 1 size 0 warm 0 worth " + worth;
    }

    private static String worths(int a, int b, int c, int d) {
        return worth('a', a) + ";" + worth('b', b) + ";" + worth('c', c) + ";" + worth('d', d);
    }

    private static ShutFists three() {
        return opened(worths(1, 2, 3, 4), "ab", "b.", ".a");
    }

    private static void givesOfNone() {
        for (int c : NO_CHILD) {
            Kit.refused("gives of " + c, IndexOutOfBoundsException.class, EdgeMarketTest::three, x -> x.gives(c));
        }
    }

    private static void givesHowMany() {
        Kit.due("how many", three().gives(-1), 2);
        Kit.due("of a parish of nobody", new ShutFists().gives(-1), 0);
        ShutFists full = opened("", "aa", "bb", "cc", "dd", "ee", "ff", "gg", "hh");
        Kit.due("all of eight", full.gives(-1), 8);
    }

    private static void givesWithoutAnything() {
        Kit.due("it keeps nothing", three().gives(2), -1);
        Kit.due("none wishes it", opened("", "ab", "b.").gives(0), -1);
        ShutFists x = Kit.parish("child a wish a");
        Kit.due("not opened: keeps nothing", x.gives(0), -1);
        Kit.due("how many", x.gives(-1), 0);
        Kit.due("no wish and nothing kept is no gift", opened("", "..", "..").gives(-1), 0);
        Kit.due("to none", opened("", "..", "..").gives(0), -1);
    }

    private static void givesToItself() {
        ShutFists x = opened("", "a.", ".a", "aa");
        Kit.due("the first gives to the least", x.gives(0), 1);
        Kit.due("itself too", x.gives(2), 2);
        ShutFists y = opened("", ".a", "aa", "a.");
        Kit.due("itself, if it may be", y.gives(1), 1);
        Kit.due("the least that is left", y.gives(2), 0);
        ShutFists taken = opened("", "a.", "aa");
        Kit.due("a child ahead takes the wish", taken.gives(0), 1);
        Kit.due("so none is left for itself", taken.gives(1), -1);
        Kit.due("one in all", taken.gives(-1), 1);
    }

    private static void givesToTheLeast() {
        ShutFists x = opened("", "b.", "a.", ".a", ".a", ".b", ".b");
        Kit.due("the least that wishes it", x.gives(0), 4);
        Kit.due("the least that wishes it", x.gives(1), 2);
        Kit.due("both", x.gives(-1), 2);
    }

    private static void givesOneEach() {
        ShutFists x = opened("", "a.", "a.", "a.", ".a", ".a");
        int[] to = {3, 4, -1, -1, -1};
        for (int c = 0; c < 5; c++) {
            Kit.due("gives of " + c, x.gives(c), to[c]);
        }
        Kit.due("each gets one at most", x.gives(-1), 2);
    }

    private static void givesToThoseNotOpened() {
        ShutFists x = opened("", "a.");
        Kit.text(x, "child b wish a;child a wish b").parish();
        String before = Kit.seen(x);
        Kit.due("one that is shut gets it", x.gives(0), 1);
        Kit.due("but gives nothing", x.gives(1), -1);
        Kit.due("one", x.gives(-1), 1);
        Kit.same("nothing is given indeed", Kit.seen(x), before);
    }

    private static void tradesOfNone() {
        int[] none = {-1, -2, 3, 8, Integer.MIN_VALUE, Integer.MAX_VALUE};
        for (int c : none) {
            Kit.refused("trade of " + c, IndexOutOfBoundsException.class, EdgeMarketTest::three, x -> x.trade(c));
            Kit.refused("ring of " + c, IndexOutOfBoundsException.class, EdgeMarketTest::three, x -> x.ring(c));
        }
    }

    private static void tradesOfNothing() {
        Kit.due("it keeps nothing", three().trade(2), -1);
        Kit.due("no ring", three().ring(2), 0);
        ShutFists x = Kit.parish("child a wish a;child b");
        Kit.openFist(x, 1);
        Kit.due("not opened", x.trade(0), -1);
        Kit.due("no ring", x.ring(0), 0);
        Kit.due("alone", x.trade(1), 1);
        Kit.due("a ring of 1", x.ring(1), 1);
        ShutFists wished = opened("", "ab", ".b");
        Kit.due("none keeps its wish: its own", wished.trade(0), 0);
    }

    private static void tradesOfLikeOnes() {
        String like = worths(50, 50, 50, 50);
        ShutFists x = opened(like, "a.", "b.", "c.", "a.");
        for (int c = 0; c < 4; c++) {
            Kit.due("of like ones its own", x.trade(c), c);
            Kit.due("alone", x.ring(c), 1);
        }
        ShutFists wish = opened(like, "aa", "aa", "b.");
        for (int c = 0; c < 3; c++) {
            Kit.due("of the same thing its own", wish.trade(c), c);
        }
        ShutFists several = opened(worths(1, 50, 50, 50), "a.", "bb", "ba", "c.");
        Kit.due("points to the least, but that one keeps its own", several.trade(1), 1);
        Kit.due("then to the next, who wants its a", several.trade(0), 2);
        Kit.due("a ring of two", several.ring(0) + 10 * several.ring(2), 22);
    }

    private static void tradesByWorth() {
        ShutFists x = opened(worths(10, 20, 30, 40), "a.", "b.", "c.", "d.");
        for (int c = 0; c < 4; c++) {
            Kit.due("all want the d, who keeps it; and on", x.trade(c), c);
        }
        ShutFists y = opened(worths(10, 20, 30, 40), "da", "a.", "c.");
        Kit.due("the d for the a", y.trade(1), 0);
        Kit.due("the a for the d", y.trade(0), 1);
        Kit.due("the c is left alone", y.trade(2), 2);
        ShutFists near = opened(worths(10, 11, 99, 0), "a.", "ba");
        Kit.due("worth 11 above 10", near.trade(0), 1);
    }

    private static void tradesByWishes() {
        ShutFists x = opened(worths(99, 0, 99, 99), "ab", "b.");
        Kit.due("a wish of worth 0 above worth 99", x.trade(0), 1);
        Kit.due("worth 99 above worth 0", x.trade(1), 0);
        ShutFists own = opened(worths(99, 0, 99, 99), "bb", "a.");
        Kit.due("its own is its wish", own.trade(0), 0);
        ShutFists several = opened(worths(99, 0, 99, 99), "ab", "bb", "b.");
        Kit.due("the least that keeps its wish is done: the next", several.trade(0), 2);
        Kit.due("its own wish", several.trade(1), 1);
    }

    private static void tradesOfWorth0() {
        ShutFists x = opened("", "a.", "b.", "c.");
        for (int c = 0; c < 3; c++) {
            Kit.due("none is better", x.trade(c), c);
            Kit.due("alone", x.ring(c), 1);
        }
        Kit.due("worth 1 above worth 0", opened(worths(0, 1, 0, 0), "ab", "ba").ring(0), 2);
    }

    /** What is inside stays, but it is traded no more when it was blown on or changed. */
    private static void tradesOfWhatIsKeptNow() {
        ShutFists x = opened(worths(10, 20, 30, 40), "ab", "ba", "c.");
        Kit.due("a ring of two", x.ring(0), 2);
        x.blow(1);
        Kit.due("its wish is kept by none: the c", x.trade(0), 0);
        Kit.due("alone", x.ring(0), 1);
        Kit.due("it keeps nothing now", x.trade(1), -1);
        Kit.due("no ring", x.ring(1), 0);
        x.change(1, 2);
        Kit.due("the c has gone to 1", x.trade(1), 0);
        Kit.due("who wants the a, as 0 wants the c", x.trade(0), 1);
        Kit.due("none for 2", x.trade(2), -1);
        Kit.due("no ring", x.ring(2), 0);
    }

    private static void swapsOfWhatIsKeptNow() {
        ShutFists x = opened(worths(10, 20, 30, 40), "ab", "ba", "c.");
        Kit.due("both would rather", x.swap(0, 1), true);
        x.change(0, 1);
        Kit.due("both have their wishes", x.swap(0, 1), false);
        x.change(1, 2);
        Kit.due("0 keeps its wish", x.swap(0, 1), false);
        Kit.due("1 wants the a of 2, who wants the c", x.swap(1, 2), true);
        x.blow(2);
        Kit.due("2 keeps nothing", x.swap(1, 2), false);
        Kit.due("nor the other way", x.swap(2, 1), false);
    }

    private static void ringsOfOneToEight() {
        for (int n = 1; n <= 8; n++) {
            String[] children = new String[n];
            for (int c = 0; c < n; c++) {
                children[c] = "" + (char) ('a' + c) + (char) ('a' + (c + n - 1) % n);
            }
            ShutFists x = opened("", children);
            for (int c = 0; c < n; c++) {
                Kit.due("a ring of " + n, x.ring(c), n);
                Kit.due("the one ahead", x.trade(c), (c + n - 1) % n);
            }
        }
    }

    private static void swapsOfNone() {
        int[] none = {-1, 3, 8, Integer.MIN_VALUE, Integer.MAX_VALUE};
        for (int c : none) {
            Kit.refused("swap of " + c, IndexOutOfBoundsException.class, EdgeMarketTest::three, x -> x.swap(c, 0) ? 1 : 0);
            Kit.refused("swap with " + c, IndexOutOfBoundsException.class, EdgeMarketTest::three, x -> x.swap(0, c) ? 1 : 0);
            Kit.refused("swap of both", IndexOutOfBoundsException.class, EdgeMarketTest::three, x -> x.swap(c, c) ? 1 : 0);
        }
    }

    private static void swapsOfOne() {
        for (int c = 0; c < 3; c++) {
            int child = c;
            Kit.refused("both are one", IllegalArgumentException.class, EdgeMarketTest::three, x -> x.swap(child, child) ? 1 : 0);
        }
    }

    private static void swapsOfNothing() {
        ShutFists x = opened(worths(10, 20, 30, 40), "ab", "..", ".a");
        Kit.due("one keeps nothing", x.swap(0, 1), false);
        Kit.due("nor does the other way", x.swap(1, 0), false);
        Kit.due("though it wishes it", x.swap(0, 2), false);
        Kit.due("both keep nothing", x.swap(1, 2), false);
    }

    private static void swapsOfLikeOnes() {
        ShutFists x = opened(worths(10, 10, 30, 0), "a.", "b.", "a.", "bb", "ab");
        Kit.due("like worths", x.swap(0, 1), false);
        Kit.due("the same thing", x.swap(0, 2), false);
        Kit.due("its wish for one that is alike", x.swap(3, 0), false);
        Kit.due("one wishes, to the other one they are alike", x.swap(4, 1), false);
        x.wish(1, 0);
        Kit.due("now both would rather", x.swap(4, 1), true);
        Kit.due("and the other way", x.swap(1, 4), true);
    }

    private static void swapsByWishes() {
        ShutFists x = opened(worths(99, 0, 30, 0), "ab", "b.", "ba");
        Kit.due("a wish above worth, worth above worth", x.swap(0, 1), true);
        Kit.due("a wish above worth, a wish", x.swap(0, 2), true);
        x.wish(0, -1);
        Kit.due("less worth", x.swap(0, 1), false);
        x.wish(1, 1);
        x.wish(0, 1);
        Kit.due("its own is its wish", x.swap(0, 1), false);
    }

    private static void allOfNone() {
        Kit.due("none keeps any", opened("", "..", "..").all(), 0);
        Kit.due("none is opened", Kit.parish("child a").all(), 0);
        Kit.due("of nobody", new ShutFists().all(), 0);
    }

    private static void allOfSeveral() {
        Kit.due("the least of several", opened("", "..", "a.", "a.").all(), 2);
        Kit.due("one of each thing", opened("", "b.", "a.", "b.", "a.", "c.").all(), 19);
        Kit.due("all eight", opened("", "h.", "g.", "f.", "e.", "d.", "c.", "b.", "a.").all(), 255);
        Kit.due("of meant 0 too", opened("thing a meant 0 size 0 warm 0 worth 0", "a.").all(), 1);
    }

    private static void missingOfNone() {
        Kit.due("all things", new ShutFists().missing(), 255);
        ShutFists x = opened("thing c meant 0 size 0 warm 0 worth 0;thing h meant 0 size 0 warm 0 worth 0", "a.", "c.");
        Kit.due("neither those kept nor those of meant 0", x.missing(), 255 & ~133);
        x.blow(0);
        Kit.due("blown on, it is missing", x.missing(), 255 & ~132);
        Kit.text(x, "thing h meant 1 size 0 warm 0 worth 0").parish();
        Kit.due("meant 1", x.missing(), 255 & ~4);
        ShutFists shut = Kit.parish("child a");
        Kit.due("inside is not kept", shut.missing(), 255);
    }

    private static void nobodyOfSeveral() {
        Kit.due("of all alike the least", new ShutFists().nobody(), 0);
        ShutFists x = Kit.parish("child a wish a;child b wish a;child c wish b;child d wish c;child e wish d;child f wish e",
                "child g wish f;child h wish g");
        Kit.due("the last one", x.nobody(), 7);
        x.wish(1, 7);
        Kit.due("each once: the least", x.nobody(), 0);
        x.wish(4, 3);
        x.wish(5, -1);
        Kit.due("none wishes for e", x.nobody(), 4);
        x.wish(4, 4);
        Kit.due("none wishes for d", x.nobody(), 3);
    }

    private static void shutInAllFingers() {
        for (int finger = 0; finger < 5; finger++) {
            ShutFists x = Kit.parish("child a;child b");
            x.move(0, finger);
            Kit.due("one finger is open", x.shut(), 2);
            x.move(0, finger);
            Kit.due("none is", x.shut(), 3);
        }
        ShutFists opened = opened("", "a.", "..");
        Kit.due("opened ones", opened.shut(), 0);
    }

    private static void openedOnes() {
        ShutFists x = Kit.parish("child a;child b");
        Kit.due("none", x.open(), 0);
        for (int finger = 0; finger < 5; finger++) {
            Kit.due("not yet", x.open(), 0);
            x.move(1, finger);
        }
        Kit.due("the second", x.open(), 2);
        x.blow(1);
        Kit.due("opened still", x.open(), 2);
    }

    private static void knottedOnes() {
        ShutFists x = Kit.parish("child a;child b;child c;child d");
        Kit.due("none", x.knotted(), 0);
        Kit.text(x, "knot 3 0").parish();
        Kit.due("both", x.knotted(), 9);
        Kit.text(x, "knot 2 1").parish();
        Kit.due("all", x.knotted(), 15);
        x.cut(3);
        Kit.due("two are cut", x.knotted(), 6);
    }

    private static void contentOnes() {
        ShutFists x = opened("", "aa", "ab", "..", ".a", "hh");
        Kit.due("those that keep what they wish", x.content(), 17);
        x.blow(0);
        Kit.due("one keeps nothing", x.content(), 16);
        x.wish(4, -1);
        Kit.due("one wishes nothing", x.content(), 0);
        Kit.due("what is inside is not kept", Kit.parish("child a wish a").content(), 0);
    }

    private static void richestOfSeveral() {
        Kit.due("of several the least", opened(worths(5, 7, 7, 3), "a.", "b.", "c.", "d.").richest(), 1);
        Kit.due("the last", opened(worths(5, 7, 7, 9), "a.", "b.", "c.", "d.").richest(), 3);
        Kit.due("worth 1", opened(worths(1, 0, 0, 0), "..", "a.").richest(), 1);
        Kit.due("worth 99", opened(worths(99, 98, 0, 0), "b.", "a.").richest(), 1);
    }

    private static void richestOfNone() {
        Kit.due("of nobody", new ShutFists().richest(), -1);
        Kit.due("none keeps any", opened(worths(9, 9, 9, 9), "..", "..").richest(), -1);
        Kit.due("what is inside is not kept", Kit.parish(worths(9, 9, 9, 9) + ";child a").richest(), -1);
        ShutFists x = opened(worths(9, 9, 9, 9), "a.");
        x.blow(0);
        Kit.due("blown on", x.richest(), -1);
    }

    private static void oldestOfSeveral() {
        ShutFists x = Kit.parish("child a age 998;child a age 999;child a age 999;child a");
        int[] oldest = {1, 2, 0, 3, -1};
        for (int due : oldest) {
            Kit.due("oldest", x.oldest(), due);
            if (due >= 0) {
                Kit.openFist(x, due);
            }
        }
        Kit.due("of age 0", Kit.parish("child a;child b").oldest(), 0);
    }

    private static void oldestOfNone() {
        Kit.due("of nobody", new ShutFists().oldest(), -1);
        Kit.due("all are opened", opened("", "a.", "b.").oldest(), -1);
    }

    private static void twinsOfAll() {
        Kit.due("of nobody", new ShutFists().twins(), 0);
        Kit.due("one alone", opened("", "a.", "b.", "..", "..").twins(), 0);
        Kit.due("two pairs", opened("", "a.", "b.", "b.", "a.").twins(), 2);
        Kit.due("three make three pairs", opened("", "a.", "a.", "a.").twins(), 3);
        Kit.due("eight make 28", opened("", "h.", "h.", "h.", "h.", "h.", "h.", "h.", "h.").twins(), 28);
        Kit.due("those not opened are none", Kit.parish("child a;child a").twins(), 0);
    }

    private static void emptyParish() {
        ShutFists x = new ShutFists();
        Kit.due("sets of none", x.shut() + x.open() + x.knotted() + x.content() + x.all(), 0);
        Kit.raises("trade", IndexOutOfBoundsException.class, () -> x.trade(0));
        Kit.raises("ring", IndexOutOfBoundsException.class, () -> x.ring(0));
        Kit.raises("gives", IndexOutOfBoundsException.class, () -> x.gives(0));
        Kit.raises("swap", IndexOutOfBoundsException.class, () -> x.swap(0, 0) ? 1 : 0);
        Kit.raises("rests", IndexOutOfBoundsException.class, () -> x.rests(0));
        Kit.raises("waits", IndexOutOfBoundsException.class, () -> x.waits(0));
        Kit.raises("led", IndexOutOfBoundsException.class, () -> x.led(0, true));
        Kit.raises("moves", IndexOutOfBoundsException.class, () -> x.moves(0));
    }
}
