/** Promises 9 to 16 and 52 to 54, each edge by itself: acts, those that are refused, undoing and the image. */
public final class EdgeActTest {
    private static final String EIGHT = "child a;child b;child c;child d;child e;child f;child g;child h";
    private static final int[] NO_CHILD = {-1, 4, 8, Integer.MIN_VALUE, Integer.MAX_VALUE};

    public static void main(String[] args) {
        monthsThatAreNone();
        monthsOfOneAndOf120();
        ageAtMost999();
        monthAtMost9999();
        drawJustBelow();
        drawsOfEach();
        monthsOfAKnot();
        leastFingerOpens();
        lastFingerOpensTheChild();
        fateAtMost999();
        ledByAllAsItIs();
        ninthBirth();
        birthsByWeights();
        birthsWithoutWeights();
        movesOfNone();
        movesOfOpened();
        movesThatCannotBe();
        moveOfTheLastFinger();
        blowsOnNothing();
        wishesOfNone();
        gripsOfNone();
        changesOfNone();
        changesOfThoseNotOpened();
        changesOfNothing();
        cutsOfNone();
        actsThatChangeNothing();
        actsThatAreRefused();
        undoOfNone();
        undoOfEach();
        twelveAreRemembered();
        undoneAndDoneAgain();
        undoLeavesTapeFaultAndImage();
        backWithoutImage();
        backToAll();
        backToTheLog();
        undoOfAnotherOpening();
        backForgetsActs();
        backLeavesTapeAndFault();
        imageOfNobody();
        imageIsOne();
        Kit.close("EdgeActTest");
    }

    /** 0 is shut, 1 and 2 have a knot, 3 is opened; five moves are remembered. */
    private static ShutFists four() {
        ShutFists x = Kit.parish("thing d meant 1 size 0 warm 0 worth 30;child a grip 0;child b grip 0;child c;child d;"
                + "knot 2 1;month 5");
        Kit.law(x, "loosen 40");
        Kit.openFist(x, 3);
        return x;
    }

    private static void monthsThatAreNone() {
        for (int n : new int[] {0, -1, 121, 122, Integer.MIN_VALUE, Integer.MAX_VALUE}) {
            Kit.refused("months " + n, IllegalArgumentException.class, EdgeActTest::four, x -> x.months(n));
        }
    }

    private static void monthsOfOneAndOf120() {
        ShutFists x = four();
        Kit.due("1 month", x.months(1), 0);
        Kit.due("month", x.count(3), 6);
        Kit.due("120 months open the one without a knot", x.months(120), 1);
        Kit.due("month", x.count(3), 126);
        Kit.due("those opened before do not count", x.months(120), 0);
        Kit.due("each call is one act", x.count(9), 8);
    }

    private static void ageAtMost999() {
        ShutFists x = Kit.parish("child a age 998 grip 9;child b age 999 grip 9;child c age 997 grip 9");
        int[][] ages = {{999, 999, 998}, {999, 999, 999}, {999, 999, 999}};
        for (int i = 0; i < 3; i++) {
            x.months(1);
            for (int c = 0; c < 3; c++) {
                Kit.due("age of " + c, x.child(c, 0), ages[i][c]);
            }
        }
    }

    private static void monthAtMost9999() {
        ShutFists x = Kit.parish("month 999");
        for (int i = 0; i < 74; i++) {
            x.months(120);
        }
        Kit.due("month", x.count(3), 9879);
        x.months(119);
        Kit.due("month 9998", x.count(3), 9998);
        x.months(1);
        Kit.due("month 9999", x.count(3), 9999);
        x.months(1);
        Kit.due("no more", x.count(3), 9999);
        x.months(120);
        Kit.due("no more at all", x.count(3), 9999);
        Kit.text(x, "month 12").parish();
        Kit.due("but for a text", x.count(3), 12);
    }

    /** The draws from seed 1, modulo 100: 38 58 13 15 51. */
    private static void drawJustBelow() {
        int[] loosen = {27, 28, 29};
        for (int by : loosen) {
            ShutFists x = Kit.parish("child a grip 0");
            Kit.law(x, "loosen " + by);
            x.months(1);
            Kit.due("a draw of 38, loosened by " + (10 + by), x.child(0, 2), by > 28 ? 30 : 31);
        }
        ShutFists none = Kit.parish("child a grip 2");
        none.seed(seedOfDraw0());
        none.months(1);
        Kit.due("a draw of 0, loosened by 0", none.child(0, 2), 31);
        ShutFists one = Kit.parish("child a grip 2");
        Kit.law(one, "loosen 1");
        one.seed(seedOfDraw0());
        one.months(1);
        Kit.due("a draw of 0, loosened by 1", one.child(0, 2), 30);
        ShutFists all = Kit.parish("child a grip 0");
        Kit.law(all, "loosen 90");
        for (int i = 0; i < 5; i++) {
            Kit.due("loosened by 100: each draw is below", all.months(1), i == 4 ? 1 : 0);
        }
    }

    private static int seedOfDraw0() {
        for (int seed = 0; seed < 100000; seed++) {
            int next = seed * 1103515245 + 12345;
            if ((next >>> 16 & 32767) % 100 == 0) {
                return seed;
            }
        }
        return 0;
    }

    private static int drawn(int draws) {
        int seed = 1;
        for (int i = 0; i < draws; i++) {
            seed = seed * 1103515245 + 12345;
        }
        return seed;
    }

    /** A draw of each child that is not opened, in each month, and of no other. */
    private static void drawsOfEach() {
        ShutFists x = four();
        x.months(1);
        Kit.due("three are not opened", x.seed(1), drawn(3));
        ShutFists none = new ShutFists();
        none.months(9);
        Kit.due("no children, no draws", none.seed(1), 1);
        ShutFists opened = Kit.parish("child a");
        Kit.openFist(opened, 0);
        opened.months(9);
        Kit.due("all opened, no draws", opened.seed(1), 1);
        Kit.due("and no older", opened.child(0, 0), 0);
        ShutFists gripped = Kit.parish("child a grip 9");
        gripped.months(9);
        Kit.due("drawn even if it never loosens", gripped.seed(1), drawn(9));
    }

    private static void monthsOfAKnot() {
        ShutFists x = Kit.parish("child a grip 0;child b grip 0;knot 0 1");
        Kit.law(x, "loosen 90");
        Kit.due("a knot opens by no month", x.months(50), 0);
        Kit.due("all fingers are shut", x.child(0, 2) + x.child(1, 2), 62);
        Kit.due("they are older", x.child(0, 0) + x.child(1, 0), 100);
        Kit.due("a child with a knot is not opened", x.open(), 0);
        x.cut(0);
        Kit.due("but cut it does", x.months(5), 2);
    }

    private static void leastFingerOpens() {
        for (int shut = 1; shut < 32; shut++) {
            ShutFists x = Kit.parish("child a grip 0");
            Kit.law(x, "loosen 90");
            for (int finger = 0; finger < 5; finger++) {
                if ((shut >> finger & 1) == 0) {
                    x.move(0, finger);
                }
            }
            int left = shut & shut - 1;
            Kit.due("opened from " + shut, x.months(1), left == 0 ? 1 : 0);
            Kit.due("fingers from " + shut, x.child(0, 2), left);
            Kit.due("opened or not", x.child(0, 7), left == 0 ? 1 : 0);
        }
    }

    private static void lastFingerOpensTheChild() {
        ShutFists x = Kit.parish("child a grip 0;child none grip 0;month 7");
        Kit.law(x, "loosen 90");
        Kit.due("4 months", x.months(4), 0);
        Kit.due("none keeps", x.child(0, 5), -1);
        Kit.due("the 5th month opens both", x.months(1), 2);
        Kit.due("keeps what is inside", x.child(0, 5), 0);
        Kit.due("keeps nothing of nothing", x.child(1, 5), -1);
        Kit.due("inside stays", x.child(0, 1) + 10 * x.child(1, 1), 80);
        Kit.due("month of the log", x.log(0, 0), 11);
        Kit.due("by numbers", x.log(1, 1), 0);
        Kit.due("age of the log", x.log(1, 3), 5);
    }

    private static void fateAtMost999() {
        for (int more = 98; more <= 100; more++) {
            ShutFists x = Kit.parish("child none");
            Kit.law(x, "lead 100;lead 100;lead 100;lead 100;lead 100;lead 100;lead 100;lead 100;lead 100;lead " + more);
            Kit.due("leads to", x.child(0, 10), 900 + more);
            Kit.openFist(x, 0);
            Kit.due("fate", x.child(0, 6), Math.min(900 + more, 999));
            Kit.due("fate of the log", x.log(0, 4), Math.min(900 + more, 999));
            Kit.due("it still leads to as much", x.child(0, 10), 900 + more);
        }
    }

    private static void ledByAllAsItIs() {
        ShutFists month = Kit.parish("child none age 4 grip 0;month 7");
        Kit.law(month, "loosen 90;lead 1 if age > 4 and age < 6;lead 2 if month < 8;lead 4 if knotted");
        month.move(0, 4);
        month.move(0, 3);
        month.move(0, 2);
        month.move(0, 1);
        Kit.due("opened in the month", month.months(1), 1);
        Kit.due("its age is 1 more, the month is not yet", month.child(0, 6), 3);
        ShutFists hand = Kit.parish("child none age 4;month 7");
        Kit.law(hand, "lead 1 if age < 5;lead 2 if month < 8");
        Kit.openFist(hand, 0);
        Kit.due("by hand nothing is more", hand.child(0, 6), 3);
    }

    private static ShutFists full() {
        return Kit.parish(EIGHT);
    }

    private static void ninthBirth() {
        Kit.refused("a 9th birth", IllegalStateException.class, EdgeActTest::full, ShutFists::birth);
        ShutFists x = Kit.parish(EIGHT.substring(0, 55));
        Kit.due("the 8th birth", x.birth(), 7);
        Kit.due("children", x.count(0), 8);
        Kit.raises("a 9th one", IllegalStateException.class, x::birth);
        Kit.due("undo", x.undo(), true);
        Kit.due("there is room again", x.birth(), 7);
    }

    /** Draws of each rest of the sum of the weights: 2 of a, none of b, 1 of h, 2 of nothing. */
    private static void birthsByWeights() {
        int[] inside = {0, 0, 7, 8, 8};
        int seen = 0;
        for (int seed = 0; seed < 60; seed++) {
            ShutFists x = Kit.parish("thing a meant 2 size 0 warm 0 worth 0;empty 2" + meant0("bcdefg"));
            x.seed(seed);
            int rest = (seed * 1103515245 + 12345 >>> 16 & 32767) % 5;
            Kit.due("birth", x.birth(), 0);
            Kit.due("a rest of " + rest, x.child(0, 1), inside[rest]);
            seen |= 1 << rest;
        }
        Kit.due("each rest was seen", seen, 31);
    }

    private static String meant0(String things) {
        StringBuilder text = new StringBuilder();
        for (char t : things.toCharArray()) {
            text.append(";thing ").append(t).append(" meant 0 size 0 warm 0 worth 0");
        }
        return text.toString();
    }

    private static void birthsWithoutWeights() {
        ShutFists x = Kit.parish("empty 0" + meant0("abcdefgh"));
        Kit.due("birth", x.birth(), 0);
        Kit.due("nothing", x.child(0, 1), 8);
        Kit.due("no draw", x.seed(1), 1);
        Kit.due("an act", x.count(9), 1);
        Kit.text(x, "empty 1").parish();
        x.birth();
        Kit.due("nothing by its weight", x.child(1, 1), 8);
        Kit.due("a draw", x.seed(1), drawn(1));
    }

    private static void movesOfNone() {
        for (int c : NO_CHILD) {
            Kit.refused("move of " + c, IndexOutOfBoundsException.class, EdgeActTest::four, x -> x.move(c, 0));
        }
        for (int f : new int[] {-1, 5, 6, 31, Integer.MIN_VALUE, Integer.MAX_VALUE}) {
            Kit.refused("move of finger " + f, IndexOutOfBoundsException.class, EdgeActTest::four, x -> x.move(0, f));
            Kit.refused("in a knot", IndexOutOfBoundsException.class, EdgeActTest::four, x -> x.move(1, f));
            Kit.refused("of an opened one", IndexOutOfBoundsException.class, EdgeActTest::four, x -> x.move(3, f));
        }
    }

    private static void movesOfOpened() {
        for (int f = 0; f < 5; f++) {
            int finger = f;
            Kit.refused("move of an opened one", IllegalStateException.class, EdgeActTest::four, x -> x.move(3, finger));
        }
    }

    private static void movesThatCannotBe() {
        for (int f = 2; f < 5; f++) {
            int finger = f;
            Kit.refused("move in a knot", IllegalStateException.class, EdgeActTest::four, x -> x.move(1, finger));
            Kit.refused("move in a knot", IllegalStateException.class, EdgeActTest::four, x -> x.move(2, finger));
        }
        for (int f = 0; f < 5; f++) {
            Kit.due("free to move " + f, four().move(0, f), 31 ^ 1 << f);
        }
    }

    private static void moveOfTheLastFinger() {
        for (int last = 0; last < 5; last++) {
            ShutFists x = Kit.parish("child h");
            for (int f = 0; f < 5; f++) {
                if (f != last) {
                    x.move(0, f);
                }
            }
            Kit.due("one is shut", x.child(0, 2), 1 << last);
            Kit.due("not opened", x.child(0, 7), 0);
            Kit.due("the last one", x.move(0, last), 0);
            Kit.due("opened", x.child(0, 7), 1);
            Kit.due("keeps", x.child(0, 5), 7);
        }
        ShutFists back = Kit.parish("child h");
        Kit.due("opened", back.move(0, 4), 15);
        Kit.due("shut again", back.move(0, 4), 31);
        Kit.due("shut in all", back.shut(), 1);
    }

    private static void blowsOnNothing() {
        for (int c : NO_CHILD) {
            Kit.refused("blow on " + c, IndexOutOfBoundsException.class, EdgeActTest::four, x -> x.blow(c));
        }
        Kit.refused("blow on one not opened", IllegalStateException.class, EdgeActTest::four, x -> x.blow(0));
        ShutFists x = four();
        Kit.due("what it kept", x.blow(3), 3);
        Kit.due("keeps nothing then", x.child(3, 5), -1);
        Kit.raises("blown on twice", IllegalStateException.class, () -> x.blow(3));
        Kit.due("no act", x.count(9), 6);
        ShutFists none = Kit.parish("child none;child a");
        Kit.openFist(none, 0);
        Kit.raises("blow on nothing", IllegalStateException.class, () -> none.blow(0));
        Kit.openFist(none, 1);
        Kit.due("thing 0", none.blow(1), 0);
    }

    private static void wishesOfNone() {
        for (int c : NO_CHILD) {
            Kit.refused("wish of " + c, IndexOutOfBoundsException.class, EdgeActTest::four, x -> x.wish(c, 0));
            Kit.refused("no wish of " + c, IndexOutOfBoundsException.class, EdgeActTest::four, x -> x.wish(c, -1));
        }
        for (int t : new int[] {-2, 8, 9, Integer.MIN_VALUE, Integer.MAX_VALUE}) {
            Kit.refused("wish for " + t, IndexOutOfBoundsException.class, EdgeActTest::four, x -> x.wish(0, t));
        }
        ShutFists x = four();
        Kit.due("what it was: none", x.wish(0, 0), -1);
        Kit.due("what it was: the first thing", x.wish(0, 7), 0);
        Kit.due("what it was: the last thing", x.wish(0, -1), 7);
        Kit.due("none again", x.wish(0, -1), -1);
        Kit.due("of an opened one", x.wish(3, 2), -1);
        Kit.due("of one in a knot", x.wish(1, 2), -1);
    }

    private static void gripsOfNone() {
        for (int c : NO_CHILD) {
            Kit.refused("grip of " + c, IndexOutOfBoundsException.class, EdgeActTest::four, x -> x.grip(c, 3));
            Kit.refused("no grip of " + c, IndexOutOfBoundsException.class, EdgeActTest::four, x -> x.grip(c, 10));
        }
        for (int n : new int[] {-1, 10, 11, Integer.MIN_VALUE, Integer.MAX_VALUE}) {
            Kit.refused("grip " + n, IllegalArgumentException.class, EdgeActTest::four, x -> x.grip(0, n));
        }
        ShutFists x = four();
        Kit.due("the most", x.grip(0, 9), 0);
        Kit.due("the least", x.grip(0, 0), 9);
        Kit.due("of an opened one", x.grip(3, 1), 5);
        Kit.due("of one in a knot", x.grip(2, 1), 5);
    }

    private static void changesOfNone() {
        for (int c : NO_CHILD) {
            Kit.refused("change of " + c, IndexOutOfBoundsException.class, EdgeActTest::four, x -> x.change(c, 3));
            Kit.refused("change with " + c, IndexOutOfBoundsException.class, EdgeActTest::four, x -> x.change(3, c));
            Kit.refused("change of two that are none", IndexOutOfBoundsException.class, EdgeActTest::four, x -> x.change(c, c));
            Kit.refused("change of one not opened with " + c, IndexOutOfBoundsException.class, EdgeActTest::four,
                    x -> x.change(0, c));
        }
        Kit.refused("both are one", IllegalArgumentException.class, EdgeActTest::four, x -> x.change(3, 3));
        Kit.refused("both are one not opened", IllegalArgumentException.class, EdgeActTest::four, x -> x.change(0, 0));
    }

    private static void changesOfThoseNotOpened() {
        Kit.refused("the first is not opened", IllegalStateException.class, EdgeActTest::four, x -> x.change(0, 3));
        Kit.refused("the second is not opened", IllegalStateException.class, EdgeActTest::four, x -> x.change(3, 0));
        Kit.refused("none is opened", IllegalStateException.class, EdgeActTest::four, x -> x.change(0, 1));
    }

    private static void changesOfNothing() {
        ShutFists x = four();
        Kit.openFist(x, 0);
        x.blow(0);
        int acts = x.count(9);
        Kit.due("nothing for something", x.change(3, 0), -1);
        Kit.due("it has gone", x.child(3, 5), -1);
        Kit.due("it has come", x.child(0, 5), 3);
        Kit.due("something for nothing", x.change(3, 0), 3);
        x.blow(3);
        Kit.due("nothing for nothing", x.change(3, 0), -1);
        Kit.due("acts", x.count(9), Math.min(acts + 4, 12));
    }

    private static void cutsOfNone() {
        for (int c : NO_CHILD) {
            Kit.refused("cut of " + c, IndexOutOfBoundsException.class, EdgeActTest::four, x -> x.cut(c));
        }
        Kit.refused("cut without a knot", IllegalStateException.class, EdgeActTest::four, x -> x.cut(0));
        Kit.refused("cut of an opened one", IllegalStateException.class, EdgeActTest::four, x -> x.cut(3));
        ShutFists x = four();
        Kit.due("the other one", x.cut(1), 2);
        Kit.due("both have none", x.child(1, 8) + x.child(2, 8), -2);
        Kit.due("none is opened by it", x.open(), 8);
        Kit.raises("cut twice", IllegalStateException.class, () -> x.cut(1));
        ShutFists y = four();
        Kit.due("the other one", y.cut(2), 1);
        Kit.raises("cut by both", IllegalStateException.class, () -> y.cut(1));
    }

    private static void actsThatChangeNothing() {
        ShutFists x = four();
        x.wish(0, -1);
        Kit.due("a wish as it was", x.count(9), 6);
        x.grip(0, 0);
        Kit.due("a grip as it was", x.count(9), 7);
        Kit.openFist(x, 0);
        x.blow(0);
        x.blow(3);
        Kit.due("12 are remembered", x.count(9), 12);
        ShutFists y = four();
        Kit.openFist(y, 0);
        y.blow(0);
        y.blow(3);
        for (int i = 0; i < 12; i++) {
            y.undo();
        }
        Kit.due("all are undone", y.count(9), 0);
        ShutFists z = Kit.parish("child none;child none");
        Kit.openFist(z, 0);
        Kit.openFist(z, 1);
        z.change(0, 1);
        Kit.due("a change of nothing", z.count(9), 11);
        z.change(0, 1);
        Kit.due("and back", z.count(9), 12);
    }

    private static void actsThatAreRefused() {
        ShutFists x = four();
        Kit.raises("months", IllegalArgumentException.class, () -> x.months(0));
        Kit.raises("move", IllegalStateException.class, () -> x.move(3, 0));
        Kit.raises("blow", IllegalStateException.class, () -> x.blow(0));
        Kit.raises("wish", IndexOutOfBoundsException.class, () -> x.wish(0, 8));
        Kit.raises("grip", IllegalArgumentException.class, () -> x.grip(0, 10));
        Kit.raises("change", IllegalStateException.class, () -> x.change(0, 3));
        Kit.raises("cut", IllegalStateException.class, () -> x.cut(0));
        Kit.due("none of these is remembered", x.count(9), 5);
        Kit.due("the latest act is the opening", x.undo(), true);
        Kit.due("undone", x.child(3, 7), 0);
        Kit.due("one finger is shut again", x.child(3, 2), 1);
    }

    private static void undoOfNone() {
        ShutFists x = Kit.parish("child a;month 3");
        String before = Kit.seen(x);
        Kit.due("none", x.undo(), false);
        Kit.same("nothing happens", Kit.seen(x), before);
        x.grip(0, 1);
        Kit.due("one", x.undo(), true);
        Kit.due("no second one", x.undo(), false);
        Kit.same("as ahead of all", Kit.seen(x), before);
        x.seed(5);
        x.image();
        Kit.due("a seed and an image are none", x.undo(), false);
    }

    private interface Act {
        int on(ShutFists x);
    }

    private static void undoOfEach() {
        Act[] acts = {x -> x.months(1), x -> x.months(120), ShutFists::birth, x -> x.move(0, 2), x -> x.move(1, 0), x -> x.move(0, 0),
            x -> x.blow(3), x -> x.wish(0, 4), x -> x.wish(3, -1), x -> x.grip(0, 9), x -> x.change(3, 4), x -> x.change(4, 3),
            x -> x.cut(1), x -> x.cut(2)};
        for (int i = 0; i < acts.length; i++) {
            ShutFists x = four();
            x.birth();
            Kit.openFist(x, 4);
            x.seed(77);
            String before = Kit.seenButActs(x);
            acts[i].on(x);
            x.seed(78);
            Kit.due("undo of act " + i, x.undo(), true);
            Kit.same("all is as ahead of act " + i, Kit.seenButActs(x), before);
        }
        ShutFists knot = Kit.parish("child a;child b;child c;knot 0 1");
        while (knot.moves(0) > 1) {
            int move = knot.first(0);
            knot.move(move / 5, move % 5);
        }
        String before = Kit.seenButActs(knot);
        int last = knot.first(0);
        Kit.due("the last finger", knot.move(last / 5, last % 5), 0);
        Kit.due("no knot", knot.knotted(), 0);
        Kit.due("undo", knot.undo(), true);
        Kit.same("the knot is there again", Kit.seenButActs(knot), before);
    }

    private static void twelveAreRemembered() {
        for (int acts = 11; acts <= 26; acts++) {
            ShutFists x = Kit.parish("child a");
            for (int i = 1; i <= acts; i++) {
                x.months(i);
                Kit.due("acts", x.count(9), Math.min(i, 12));
            }
            int undone = 0;
            while (undone < 30 && x.undo()) {
                undone++;
                int left = acts - undone;
                Kit.due("month", x.count(3), left * (left + 1) / 2);
            }
            Kit.due("so many were undone", undone, Math.min(acts, 12));
            Kit.due("none are left", x.count(9), 0);
        }
    }

    private static void undoneAndDoneAgain() {
        ShutFists x = Kit.parish("child a");
        for (int i = 0; i < 15; i++) {
            x.grip(0, i % 10);
        }
        for (int i = 0; i < 5; i++) {
            x.undo();
        }
        Kit.due("5 are undone", x.count(9), 7);
        Kit.due("grip", x.child(0, 3), 9);
        for (int i = 0; i < 9; i++) {
            x.grip(0, i);
        }
        Kit.due("9 more, but 12 at most", x.count(9), 12);
        int[] grips = {7, 6, 5, 4, 3, 2, 1, 0, 9, 8, 7, 6};
        for (int grip : grips) {
            Kit.due("undo", x.undo(), true);
            Kit.due("grip", x.child(0, 3), grip);
        }
        Kit.due("no more", x.undo(), false);
    }

    private static void undoLeavesTapeFaultAndImage() {
        ShutFists x = Kit.parish("child a");
        x.grip(0, 1);
        Kit.wrongParish(x, "month 3;x", 8);
        x.grip(0, 2);
        x.image();
        x.grip(0, 3);
        Kit.text(x, "month 44");
        x.undo();
        x.undo();
        Kit.due("grip", x.child(0, 3), 1);
        Kit.due("the fault", x.fault(), 8);
        Kit.tapeHas("the tape", x, 8);
        x.parish();
        Kit.due("the tape's bytes", x.count(3), 44);
        Kit.due("the image", x.back(), true);
        Kit.due("as it was kept", x.child(0, 3), 2);
    }

    private static void backWithoutImage() {
        ShutFists x = four();
        Kit.due("back", x.back(), false);
        Kit.same("nothing happens", Kit.seen(x), Kit.seen(four()));
        Kit.due("acts are remembered still", x.undo(), true);
        Kit.due("and still none", x.back(), false);
    }

    private static void backToAll() {
        ShutFists x = four();
        x.seed(31);
        x.image();
        String before = Kit.seenButActs(x);
        Kit.text(x, "child e;knot 0 4;empty 7;month 99;thing d meant 9 size 8 warm 7 worth 66").parish();
        Kit.law(x, "lead 50;lead 3");
        x.cut(0);
        x.birth();
        x.months(120);
        x.blow(3);
        x.seed(32);
        Kit.due("back", x.back(), true);
        Kit.same("all is as it was kept", Kit.seenButActs(x), before);
        Kit.due("the law too", x.ahead(0, 1), 30);
        x.months(100);
        Kit.due("back again", x.back(), true);
        Kit.same("an image can be gone back to again", Kit.seenButActs(x), before);
    }

    private static void backToTheLog() {
        ShutFists x = Kit.parish("child a age 3;child b age 4;month 7");
        x.move(0, 0);
        x.move(0, 1);
        x.move(0, 2);
        x.move(0, 3);
        x.move(0, 4);
        x.image();
        String before = Kit.seenButActs(x);
        x.undo();
        Kit.openFist(x, 1);
        Kit.due("another one is the first of the log", x.log(0, 1), 1);
        Kit.due("back", x.back(), true);
        Kit.same("the log is as it was kept", Kit.seenButActs(x), before);
        Kit.due("led", x.led(0, true), 0);
        Kit.due("not led", x.led(1, true), -1);
    }

    private static void undoOfAnotherOpening() {
        ShutFists x = Kit.parish("child a;child b;child c");
        Kit.openFist(x, 0);
        Kit.openFist(x, 1);
        x.undo();
        Kit.openFist(x, 2);
        Kit.due("rows", x.count(8), 2);
        Kit.due("the one opened in place of it", x.log(0, 1), 2);
        Kit.due("the one ahead of both", x.log(1, 1), 0);
        Kit.due("the undone one has no row", x.led(1, false), -1);
    }

    private static void backForgetsActs() {
        ShutFists x = four();
        x.image();
        Kit.due("an image forgets none", x.count(9), 5);
        x.grip(0, 7);
        Kit.due("back", x.back(), true);
        Kit.due("none are remembered", x.count(9), 0);
        Kit.due("undo", x.undo(), false);
        Kit.due("gone back to", x.child(0, 3), 0);
        ShutFists same = four();
        same.image();
        same.back();
        Kit.due("none, even if nothing was changed", same.count(9), 0);
    }

    private static void backLeavesTapeAndFault() {
        ShutFists x = Kit.parish("child a");
        x.image();
        Kit.wrongLaw(x, "lead x", 5);
        Kit.text(x, "month 55");
        Kit.due("back", x.back(), true);
        Kit.due("the fault", x.fault(), 5);
        Kit.tapeHas("the tape", x, 8);
        Kit.due("a second text", x.parish(), 2);
        Kit.due("the tape's bytes", x.count(3), 55);
        x.back();
        Kit.due("texts are gone back to", x.count(1), 1);
    }

    private static void imageOfNobody() {
        ShutFists x = new ShutFists();
        x.image();
        Kit.text(x, EIGHT).parish();
        Kit.law(x, "lead 3");
        Kit.due("back to nobody", x.back(), true);
        Kit.same("as at first", Kit.seen(x), Kit.seen(new ShutFists()));
        Kit.raises("no child", IndexOutOfBoundsException.class, () -> x.child(0, 0));
    }

    private static void imageIsOne() {
        ShutFists x = Kit.parish("child a");
        x.image();
        x.grip(0, 1);
        x.image();
        x.grip(0, 2);
        Kit.due("back", x.back(), true);
        Kit.due("to the latest", x.child(0, 3), 1);
        Kit.due("back", x.back(), true);
        Kit.due("and no farther", x.child(0, 3), 1);
    }
}
