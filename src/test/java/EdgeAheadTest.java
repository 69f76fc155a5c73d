import java.util.function.ToIntFunction;

/** Promises 23 to 27 and 46 to 48, each edge by itself: what comes ahead, trials and spans. */
public final class EdgeAheadTest {
    private static final int[] NO_CHILD = {-1, 4, 8, Integer.MIN_VALUE, Integer.MAX_VALUE};
    private static final int[] NO_NUMBER = {-1, 101, 102, Integer.MIN_VALUE, Integer.MAX_VALUE};

    public static void main(String[] args) {
        childrenThatAreNone();
        numbersThatAreNone();
        aheadOfBothThatAreNone();
        aheadBy0();
        aheadBy100();
        loosenedBy50AtLeast();
        aheadOfAKnot();
        aheadOfOpened();
        aheadOpensTheLeastFinger();
        ageAndMonthAhead();
        fateAheadAtMost999();
        waitsOfOpened();
        waitsOfOneMonth();
        waitsFor100();
        nextOfSeveral();
        nextOfThoseNotOpenedNow();
        lastOfAll();
        keepAndFatesOfNobody();
        trialOf0();
        trialOf100();
        trialDraws();
        spanOf0();
        spanOfSeeds();
        nothingStays();
        Kit.close("EdgeAheadTest");
    }

    /** 0 is shut, 1 and 2 have a knot, 3 is opened and led to 30. */
    private static ShutFists four() {
        ShutFists x = Kit.parish("thing d meant 1 size 0 warm 0 worth 30;child a grip 0;child b grip 0;child c grip 0;child d;"
                + "knot 2 1;month 5");
        Kit.law(x, "loosen 40");
        Kit.openFist(x, 3);
        return x;
    }

    private static void none(String what, int[] numbers, Class<? extends RuntimeException> kind, Call call) {
        for (int n : numbers) {
            Kit.refused(what + " " + n, kind, EdgeAheadTest::four, x -> call.of(x, n));
        }
    }

    private interface Call {
        int of(ShutFists x, int n);
    }

    private static void childrenThatAreNone() {
        none("waits of", NO_CHILD, IndexOutOfBoundsException.class, ShutFists::waits);
        none("ahead of", NO_CHILD, IndexOutOfBoundsException.class, (x, n) -> x.ahead(n, 1));
    }

    private static void numbersThatAreNone() {
        none("keep", NO_NUMBER, IllegalArgumentException.class, ShutFists::keep);
        none("fates", NO_NUMBER, IllegalArgumentException.class, ShutFists::fates);
        none("ahead by", NO_NUMBER, IllegalArgumentException.class, (x, n) -> x.ahead(0, n));
        none("trial", NO_NUMBER, IllegalArgumentException.class, (x, n) -> x.trial(n, false));
        none("trial of fate", NO_NUMBER, IllegalArgumentException.class, (x, n) -> x.trial(n, true));
        none("least of span", NO_NUMBER, IllegalArgumentException.class, (x, n) -> x.span(n, false));
        none("most of span", NO_NUMBER, IllegalArgumentException.class, (x, n) -> x.span(n, true));
    }

    private static void aheadOfBothThatAreNone() {
        none("the child is told first", NO_CHILD, IndexOutOfBoundsException.class, (x, n) -> x.ahead(n, -1));
        none("the child is told first", NO_NUMBER, IndexOutOfBoundsException.class, (x, n) -> x.ahead(4, n));
    }

    private static void aheadBy0() {
        ShutFists x = four();
        x.move(0, 2);
        Kit.due("ahead by 0", x.ahead(0, 0), 27);
        Kit.due("ahead of an opened one by 0", x.ahead(3, 0), 0);
        Kit.due("keep 0", x.keep(0), 3);
        Kit.due("fates 0", x.fates(0), 30);
    }

    private static void aheadBy100() {
        ShutFists x = Kit.parish("thing a meant 1 size 0 warm 0 worth 7;child a grip 0");
        Kit.law(x, "loosen 40 if month > 94");
        Kit.due("ahead by 99", x.ahead(0, 99), 16);
        Kit.due("ahead by 100", x.ahead(0, 100), 0);
        Kit.due("keep 99", x.keep(99), 1);
        Kit.due("keep 100", x.keep(100), 0);
        Kit.due("fates 99", x.fates(99), 0);
        Kit.due("fates 100", x.fates(100), 7);
    }

    private static void loosenedBy50AtLeast() {
        int[] loosen = {0, 38, 39, 40, 41, 90, 100};
        for (int by : loosen) {
            ShutFists x = Kit.parish("child a grip 0");
            Kit.law(x, "loosen " + by);
            Kit.due("loosened by " + (10 + by), x.ahead(0, 1), by >= 40 ? 30 : 31);
            Kit.due("waits", x.waits(0), by >= 40 ? 5 : -1);
        }
    }

    private static void aheadOfAKnot() {
        ShutFists x = four();
        Kit.due("a knot holds", x.ahead(1, 100), 31);
        Kit.due("and the other one", x.ahead(2, 100), 31);
        Kit.due("waits", x.waits(1), -1);
        Kit.due("keep", x.keep(100), 2);
        x.cut(1);
        Kit.due("a cut one opens", x.waits(1), 5);
        Kit.due("keep", x.keep(100), 0);
    }

    private static void aheadOfOpened() {
        ShutFists x = four();
        Kit.due("no finger is shut", x.ahead(3, 100), 0);
        Kit.due("its fate is as it was", x.fates(4), 30);
        Kit.openFist(x, 0);
        Kit.due("none opens: next", x.next(), -1);
        Kit.due("none opens: last", x.last(), -1);
    }

    private static void aheadOpensTheLeastFinger() {
        for (int shut = 1; shut < 32; shut++) {
            ShutFists x = Kit.parish("child a grip 0");
            Kit.law(x, "loosen 40");
            for (int finger = 0; finger < 5; finger++) {
                if ((shut >> finger & 1) == 0) {
                    x.move(0, finger);
                }
            }
            int left = shut;
            for (int n = 0; n <= 6; n++) {
                Kit.due(shut + " ahead by " + n, x.ahead(0, n), left);
                left &= left - 1;
            }
            Kit.due("waits from " + shut, x.waits(0), Integer.bitCount(shut));
        }
    }

    private static void ageAndMonthAhead() {
        ShutFists x = Kit.parish("child none age 997 grip 0;month 999");
        Kit.law(x, "loosen 40 if age > 998 and month > 999;lead 1 if age > 998;lead 2 if month > 999 + 5;lead 4 if shut > 0");
        Kit.due("from age 999 on", x.ahead(0, 1), 31);
        Kit.due("the second month", x.ahead(0, 2), 30);
        Kit.due("waits", x.waits(0), 6);
        Kit.due("age 999 at most, month 1004 then", x.fates(6), 1);
        Kit.law(x, "loosen 40 if age < 999");
        Kit.due("age 998 for one month", x.ahead(0, 100), 30);
        monthAheadAtMost9999();
    }

    private static void monthAheadAtMost9999() {
        ShutFists late = Kit.parish("month 999");
        for (int i = 0; i < 75; i++) {
            late.months(120);
        }
        Kit.due("month", late.count(3), 9999);
        Kit.text(late, "child none grip 0").parish();
        Kit.law(late, "loosen 40 if month < 10" + "+ 999".repeat(10));
        Kit.due("month 9999 at most", late.waits(0), 5);
    }

    private static void fateAheadAtMost999() {
        ShutFists x = Kit.parish("child none grip 0;child none grip 0;child none");
        Kit.law(x, "loosen 40;lead 100;lead 100;lead 100;lead 100;lead 100;lead 100;lead 100;lead 100;lead 100;lead 100;lead 1 if child < 1");
        Kit.due("fates", x.fates(5), 1998);
        Kit.law(x, "loosen 100 if child < 2;lead 100;lead 100;lead 100;lead 100;lead 100;lead 100;lead 100;lead 100;lead 100;lead 100;lead 1 if child < 1");
        Kit.due("trial", x.trial(5, true), 1998);
        Kit.due("months", x.months(5), 2);
        Kit.due("fate", x.count(6), 1998);
    }

    private static void waitsOfOpened() {
        Kit.due("0, if it is opened", four().waits(3), 0);
        ShutFists x = Kit.parish("child none");
        Kit.openFist(x, 0);
        Kit.due("opened on nothing", x.waits(0), 0);
    }

    private static void waitsOfOneMonth() {
        ShutFists x = Kit.parish("child a grip 0");
        Kit.law(x, "loosen 40");
        for (int finger = 0; finger < 4; finger++) {
            Kit.due("waits", x.waits(0), 5 - finger);
            x.move(0, finger);
        }
        Kit.due("one finger, one month", x.waits(0), 1);
        Kit.due("next", x.next(), 0);
        Kit.due("last", x.last(), 1);
        Kit.due("keep", x.keep(1), 0);
    }

    private static void waitsFor100() {
        for (int month = 93; month <= 97; month++) {
            ShutFists x = Kit.parish("child b;child a grip 0");
            Kit.law(x, "loosen 40 if month > " + month);
            int due = month + 6 <= 100 ? month + 6 : -1;
            Kit.due("waits", x.waits(1), due);
            Kit.due("next", x.next(), due == -1 ? -1 : 1);
            Kit.due("last", x.last(), due);
        }
    }

    private static void nextOfSeveral() {
        ShutFists x = Kit.parish("child a grip 0;child b grip 0;child c grip 0;child d grip 0");
        Kit.law(x, "loosen 40 if child > 0");
        Kit.due("of several the least", x.next(), 1);
        x.move(3, 0);
        Kit.due("the first of all", x.next(), 3);
        x.move(2, 4);
        Kit.due("of both the least", x.next(), 2);
        Kit.law(x, "loosen 40 if child > 7");
        Kit.due("none", x.next(), -1);
    }

    private static void nextOfThoseNotOpenedNow() {
        ShutFists x = Kit.parish("child a grip 0;child b grip 0;child c grip 0");
        Kit.law(x, "loosen 40");
        Kit.openFist(x, 0);
        Kit.due("0 is opened now", x.next(), 1);
        Kit.openFist(x, 1);
        Kit.due("1 too", x.next(), 2);
        Kit.due("last", x.last(), 5);
        Kit.openFist(x, 2);
        Kit.due("all are", x.next(), -1);
        Kit.due("last", x.last(), -1);
        Kit.due("keep", x.keep(0) + x.keep(100), 0);
    }

    private static void lastOfAll() {
        ShutFists x = Kit.parish("child a grip 0;child b grip 0;child c grip 9;child d grip 0");
        Kit.law(x, "loosen 40 if child < 1 and month > 9;loosen 40 if child > 0 and month > 29");
        Kit.due("the greatest month in which one is opened", x.last(), 35);
        Kit.openFist(x, 1);
        Kit.openFist(x, 3);
        Kit.due("of those that are left", x.last(), 15);
        Kit.openFist(x, 0);
        Kit.due("one that never opens", x.last(), -1);
    }

    private static void keepAndFatesOfNobody() {
        ShutFists x = new ShutFists();
        for (int n = 0; n <= 100; n += 50) {
            Kit.due("keep", x.keep(n), 0);
            Kit.due("fates", x.fates(n), 0);
            Kit.due("trial", x.trial(n, false) + x.trial(n, true), 0);
            Kit.due("span", x.span(n, false) + x.span(n, true), 0);
        }
    }

    private static void trialOf0() {
        Kit.due("those opened now", four().trial(0, false), 8);
        Kit.due("fate now", four().trial(0, true), 30);
    }

    private static void trialOf100() {
        ShutFists x = Kit.parish("thing a meant 1 size 0 warm 0 worth 7;child a grip 0");
        x.grip(0, 2);
        Kit.law(x, "loosen 100 if month > 94");
        Kit.due("99", x.trial(99, false), 0);
        Kit.due("100", x.trial(100, false), 1);
        Kit.due("fate of 99", x.trial(99, true), 0);
        Kit.due("fate of 100", x.trial(100, true), 7);
        Kit.due("span of 99", x.span(99, true), 0);
        Kit.due("span of 100", x.span(100, false), 1);
    }

    private static void trialDraws() {
        for (int seed : new int[] {1, 2, 77, -5, Integer.MIN_VALUE}) {
            for (int n = 1; n <= 40; n += 13) {
                ShutFists x = four();
                x.seed(seed);
                int opened = x.trial(n, false);
                int fate = x.trial(n, true);
                x.months(n);
                Kit.due("those opened as the months come", opened, x.open());
                Kit.due("fate as the months come", fate, x.count(6));
            }
        }
    }

    private static void spanOf0() {
        Kit.due("the least now", four().span(0, false), 1);
        Kit.due("the greatest now", four().span(0, true), 1);
    }

    /** Each of the seeds 1 to 6 is once the only one of the least, and once the only one of the greatest number. */
    private static void spanOfSeeds() {
        int onlyLeast = 0;
        int onlyMost = 0;
        for (int loosen = 0; loosen <= 60; loosen += 2) {
            for (int n = 4; n <= 40; n++) {
                int[] opened = new int[8];
                for (int seed = 0; seed < 8; seed++) {
                    ShutFists x = six(loosen);
                    x.seed(seed);
                    opened[seed] = Integer.bitCount(x.trial(n, false));
                }
                int least = 99;
                int most = -1;
                for (int seed = 1; seed <= 6; seed++) {
                    least = Math.min(least, opened[seed]);
                    most = Math.max(most, opened[seed]);
                }
                onlyLeast |= only(opened, least);
                onlyMost |= only(opened, most);
                Kit.due("the least", six(loosen).span(n, false), least);
                Kit.due("the greatest", six(loosen).span(n, true), most);
            }
        }
        Kit.due("each seed was the least", onlyLeast, 126);
        Kit.due("each seed was the greatest", onlyMost, 126);
    }

    private static ShutFists six(int loosen) {
        return Kit.law(Kit.parish("child a grip 0;child b grip 0;child c grip 0;child d grip 0;child e grip 0;child f grip 0"),
                "loosen " + loosen);
    }

    private static int only(int[] opened, int number) {
        int seeds = 0;
        for (int seed = 1; seed <= 6; seed++) {
            seeds |= opened[seed] == number ? 1 << seed : 0;
        }
        return Integer.bitCount(seeds) == 1 ? seeds : 0;
    }

    private static void nothingStays() {
        stays("waits", x -> x.waits(0));
        stays("next", ShutFists::next);
        stays("keep", x -> x.keep(100));
        stays("fates", x -> x.fates(100));
        stays("last", ShutFists::last);
        stays("ahead", x -> x.ahead(0, 100));
        stays("trial", x -> x.trial(100, false));
        stays("trial of fate", x -> x.trial(100, true));
        stays("span", x -> x.span(100, false));
        stays("span", x -> x.span(100, true));
    }

    private static void stays(String what, ToIntFunction<ShutFists> call) {
        ShutFists x = four();
        x.seed(9);
        String before = Kit.seen(x);
        call.applyAsInt(x);
        Kit.same("nothing stays of " + what, Kit.seen(x), before);
    }
}
