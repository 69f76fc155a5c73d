import java.util.Arrays;
import java.util.NoSuchElementException;
import java.util.function.ToIntFunction;

/** Promises 20 to 22 and 35 to 38, each edge by itself: feels, odds, laws of leading, choices and births of nothing. */
public final class EdgeFeelTest {
    private static final int[] NO_NUMBER = {Integer.MIN_VALUE, -2, Integer.MAX_VALUE};

    public static void main(String[] args) {
        feelsOfNoRow();
        feelsOfTwentyRows();
        feelsOfHalfARow();
        feelsOutOfBounds();
        feelsOfAnotherWhat();
        slipsOfOne();
        worthByTen();
        thingsWithoutWeight();
        likelyOfSeveral();
        likelyOfNone();
        expectRoundedDown();
        oddsOfEach();
        oddsOfNone();
        oddsAndTape();
        oddsRoundedDown();
        askOfFewerThanTwo();
        askOfSeveral();
        askFeelsExactly();
        rulesOfNoRow();
        rulesOfTwentyRows();
        rulesOutOfBounds();
        rulesOfTheEnds();
        rulesOfNone();
        tellOfFewerThanTwo();
        tellOfSeveral();
        restsOfNone();
        restsOfOpened();
        restsWithoutARow();
        restsOfLikeChoices();
        nothingOutOfBounds();
        nothingOfNoBirth();
        nothingRoundedEachTime();
        nothingWithoutWeights();
        Kit.close("EdgeFeelTest");
    }

    /** Things that are not told here have no weight. */
    private static ShutFists things(int empty, String... facts) {
        StringBuilder text = new StringBuilder("empty " + empty);
        for (int t = 0; t < 8; t++) {
            String[] fact = (t < facts.length ? facts[t] : "0 0 0 0").split(" ");
            text.append(";thing ").append((char) ('a' + t)).append(" meant ").append(fact[0]).append(" size ").append(fact[1])
                    .append(" warm ").append(fact[2]).append(" worth ").append(fact[3]);
        }
        return Kit.parish(text.toString());
    }

    private static ShutFists some() {
        return things(2, "3 5 1 40", "5 0 9 9", "1 9 4 99");
    }

    /** Each call that takes feels uses the tape up, whatever comes of it. */
    private static void feelsRefused(String what, int... tape) {
        feelsRefusedBy("feels of " + what, IllegalArgumentException.class, tape, x -> x.feels(0));
        feelsRefusedBy("odds of " + what, IllegalArgumentException.class, tape, x -> x.odds(8));
        feelsRefusedBy("ask of " + what, IllegalArgumentException.class, tape, ShutFists::ask);
        feelsRefusedBy("another what, and " + what, IllegalArgumentException.class, tape, x -> x.feels(3));
        feelsRefusedBy("another thing, and " + what, IndexOutOfBoundsException.class, tape, x -> x.odds(9));
    }

    private static void feelsRefusedBy(String what, Class<? extends RuntimeException> kind, int[] tape, ToIntFunction<ShutFists> call) {
        Kit.refused(what, kind, EdgeFeelTest::some, x -> call.applyAsInt(Kit.tape(x, tape)));
        ShutFists x = Kit.tape(some(), tape);
        Kit.raises(what, kind, () -> call.applyAsInt(x));
        Kit.tapeHas(what, x, 0);
        Kit.due("it is no text: " + what, x.fault(), -1);
    }

    private static void feelsOfNoRow() {
        ShutFists x = some();
        Kit.due("all that have a weight", x.feels(0), 263);
        Kit.due("likely", x.feels(1), 1);
        Kit.due("expect", x.feels(2), (120 + 45 + 99) / 11);
        Kit.due("odds", x.odds(0), 30000 / 11);
        Kit.due("ask: warm parts all four", x.ask(), 1);
    }

    private static void feelsOfTwentyRows() {
        int[] tape = new int[40];
        Kit.due("20 rows", Kit.tape(some(), tape).feels(0), 258);
        for (int row = 0; row < 20; row++) {
            int[] bytes = new int[40];
            bytes[2 * row + 1] = 5;
            Kit.due("each row counts", Kit.tape(some(), bytes).feels(0), 0);
        }
        ShutFists x = Kit.tape(some(), tape);
        x.feels(0);
        Kit.tapeHas("used up", x, 0);
        feelsRefused("21 rows", new int[42]);
        feelsRefused("41 bytes", new int[41]);
        feelsRefused("400 bytes", new int[400]);
    }

    private static void feelsOfHalfARow() {
        feelsRefused("1 byte", 0);
        feelsRefused("3 bytes", 0, 1, 2);
        feelsRefused("39 bytes", new int[39]);
    }

    private static void feelsOutOfBounds() {
        for (int felt = 0; felt < 3; felt++) {
            for (int much = 0; much <= 10; much++) {
                Kit.due("felt " + felt + " " + much, Kit.tape(some(), felt, much).feels(0) >= 0, true);
            }
            feelsRefused("too much of " + felt, felt, 11);
            feelsRefused("far too much of " + felt, felt, 255);
        }
        feelsRefused("a 4th feel", 3, 0);
        feelsRefused("a feel 255", 255, 0);
        feelsRefused("a 4th feel behind a right one", 0, 1, 3, 1);
        feelsRefused("too much ahead of a right one", 0, 11, 0, 1);
        int[] last = new int[40];
        last[38] = 3;
        feelsRefused("a 4th feel in the last row", last);
        last[38] = 0;
        last[39] = 11;
        feelsRefused("too much in the last row", last);
    }

    private static void feelsOfAnotherWhat() {
        for (int what : new int[] {-1, 3, 4, Integer.MIN_VALUE, Integer.MAX_VALUE}) {
            feelsRefusedBy("feels what " + what, NoSuchElementException.class, new int[] {0, 1}, x -> x.feels(what));
            feelsRefusedBy("feels what " + what, NoSuchElementException.class, new int[0], x -> x.feels(what));
        }
    }

    private static void slipsOfOne() {
        for (int fact = 0; fact <= 9; fact++) {
            for (int much = 0; much <= 10; much++) {
                boolean fits = Math.abs(fact - much) <= 1;
                ShutFists x = things(0, "1 " + fact + " 0 0", "1 9 " + fact + " 0", "1 9 9 " + 10 * fact);
                Kit.due("size " + fact + " felt " + much, (Kit.tape(x, 0, much).feels(0) & 1) != 0, fits);
                Kit.due("warm " + fact + " felt " + much, (Kit.tape(x, 1, much).feels(0) & 2) != 0, fits);
                Kit.due("worth " + fact + " felt " + much, (Kit.tape(x, 2, much).feels(0) & 4) != 0, fits);
            }
        }
        for (int felt = 0; felt < 3; felt++) {
            for (int much = 0; much <= 10; much++) {
                Kit.due("nothing is 0", Kit.tape(things(1), felt, much).feels(0), much <= 1 ? 256 : 0);
            }
        }
    }

    private static void worthByTen() {
        int[] worths = {0, 9, 10, 19, 20, 29, 90, 99};
        for (int worth : worths) {
            ShutFists x = things(0, "1 0 0 " + worth);
            Kit.due("the most that worth " + worth + " is felt", Kit.tape(x, 2, worth / 10 + 1).feels(0), 1);
            if (worth < 90) {
                Kit.due("more than worth " + worth, Kit.tape(x, 2, worth / 10 + 2).feels(0), 0);
            }
            if (worth >= 20) {
                Kit.due("less than worth " + worth, Kit.tape(x, 2, worth / 10 - 2).feels(0), 0);
            }
        }
        Kit.due("worth 99 is felt as 10, too", Kit.tape(things(0, "1 0 0 99"), 2, 10).feels(0), 1);
        Kit.due("worth 89 is not", Kit.tape(things(0, "1 0 0 89"), 2, 10).feels(0), 0);
    }

    private static void thingsWithoutWeight() {
        Kit.due("none has", things(0).feels(0), 0);
        Kit.due("nothing alone", things(1).feels(0), 256);
        Kit.due("the last thing alone", things(0, "0 0 0 0", "0 0 0 0", "0 0 0 0", "0 0 0 0", "0 0 0 0", "0 0 0 0", "0 0 0 0",
                "1 0 0 0").feels(0), 128);
        Kit.due("the first thing alone", things(0, "9 0 0 0").feels(0), 1);
    }

    private static void likelyOfSeveral() {
        Kit.due("of several the least", things(4, "3 0 0 0", "4 0 0 0", "4 0 0 0").feels(1), 1);
        Kit.due("nothing, if it is above all", things(5, "3 0 0 0", "4 0 0 0", "4 0 0 0").feels(1), 8);
        Kit.due("the first", things(1, "1 0 0 0", "1 0 0 0").feels(1), 0);
        Kit.due("of those that fit", Kit.tape(things(9, "9 0 0 0", "1 5 0 0"), 0, 5).feels(1), 1);
    }

    private static void likelyOfNone() {
        Kit.due("none has a weight", things(0).feels(1), -1);
        Kit.due("none fits", Kit.tape(some(), 0, 7).feels(1), -1);
        Kit.due("none fits", Kit.tape(some(), 0, 7).feels(0), 0);
    }

    private static void expectRoundedDown() {
        Kit.due("0 without", things(0, "0 0 0 50").feels(2), 0);
        Kit.due("none fits", Kit.tape(some(), 0, 7).feels(2), 0);
        Kit.due("99 by 2", things(1, "1 0 0 99").feels(2), 49);
        Kit.due("99 by 10", things(9, "1 0 0 99").feels(2), 9);
        Kit.due("1 by 2", things(1, "1 0 0 1").feels(2), 0);
        Kit.due("all alike", things(0, "9 0 0 99", "9 0 0 99", "9 0 0 99").feels(2), 99);
    }

    private static void oddsOfEach() {
        ShutFists x = things(9, "1 0 0 0", "2 0 0 0", "3 0 0 0", "4 0 0 0", "5 0 0 0", "6 0 0 0", "7 0 0 0", "8 0 0 0");
        for (int t = 0; t <= 8; t++) {
            Kit.due("odds of " + t, x.odds(t), (t + 1) * 10000 / 45);
        }
        Kit.due("all there is", things(0, "9 0 0 0").odds(0), 10000);
        Kit.due("nothing is all there is", things(1).odds(8), 10000);
    }

    private static void oddsOfNone() {
        Kit.due("no weights", things(0).odds(0), 0);
        Kit.due("no weight", things(0, "1 0 0 0").odds(1), 0);
        Kit.due("no weight of nothing", things(0, "1 0 0 0").odds(8), 0);
        Kit.due("it does not fit", Kit.tape(some(), 0, 0).odds(0), 0);
        Kit.due("none fits", Kit.tape(some(), 0, 7).odds(0), 0);
        for (int t : new int[] {-1, 9, 10, Integer.MIN_VALUE, Integer.MAX_VALUE}) {
            feelsRefusedBy("odds of " + t, IndexOutOfBoundsException.class, new int[] {0, 1}, x -> x.odds(t));
        }
    }

    private static void oddsAndTape() {
        for (int t : new int[] {-1, 9}) {
            feelsRefusedBy("the thing is told first", IndexOutOfBoundsException.class, new int[] {0}, x -> x.odds(t));
        }
        ShutFists x = Kit.tape(some(), 0, 5);
        Kit.due("one alone", x.odds(0), 10000);
        Kit.tapeHas("used up", x, 0);
    }

    private static void oddsRoundedDown() {
        Kit.due("a third", things(1, "1 0 0 0", "1 0 0 0").odds(0), 3333);
        Kit.due("two thirds", things(1, "2 0 0 0").odds(0), 6666);
        Kit.due("1 of 81", things(9, "1 0 0 0", "9 0 0 0", "9 0 0 0", "9 0 0 0", "9 0 0 0", "9 0 0 0", "9 0 0 0", "9 0 0 0").odds(0), 136);
    }

    private static void askOfFewerThanTwo() {
        Kit.due("none", things(0).ask(), -1);
        Kit.due("one", things(0, "1 0 0 0").ask(), -1);
        Kit.due("nothing alone", things(1).ask(), -1);
        Kit.due("two", things(1, "1 0 0 0").ask(), 0);
        Kit.due("one of those that fit", Kit.tape(some(), 0, 9).ask(), -1);
        Kit.due("none of those that fit", Kit.tape(some(), 0, 7).ask(), -1);
        ShutFists x = Kit.tape(some(), 0, 0);
        Kit.due("two of those that fit", x.ask(), 1);
        Kit.tapeHas("used up", x, 0);
    }

    private static void askOfSeveral() {
        Kit.due("all part alike: size", things(0, "1 1 1 10", "1 2 2 20").ask(), 0);
        Kit.due("warm and worth part alike: warm", things(0, "1 1 1 10", "1 1 2 20").ask(), 1);
        Kit.due("none parts: size", things(0, "1 1 1 10", "1 1 1 10").ask(), 0);
        Kit.due("worth parts best", things(0, "1 1 1 10", "1 1 2 20", "1 1 2 30").ask(), 2);
        Kit.due("the greatest part counts: 2 and 2, not 3 and 1", things(0, "1 1 1 0", "1 1 1 0", "1 1 2 0", "1 2 2 0").ask(), 1);
    }

    private static void askFeelsExactly() {
        Kit.due("9 and 10 are parted", things(0, "1 0 0 9", "1 0 0 10").ask(), 2);
        Kit.due("10 and 19 are not", things(0, "1 0 0 10", "1 0 0 19").ask(), 0);
        Kit.due("sizes off by 1 are parted", things(0, "1 3 0 9", "1 4 1 20").ask(), 0);
        Kit.due("by how many, not by weights", things(0, "9 1 1 0", "9 1 2 0", "1 2 2 0", "1 3 2 0").ask(), 0);
    }

    private static void livesRefused(String what, int... tape) {
        feelsRefusedBy("rules of " + what, IllegalArgumentException.class, tape, x -> x.rules(false));
        feelsRefusedBy("the least of " + what, IllegalArgumentException.class, tape, x -> x.rules(true));
        feelsRefusedBy("tell of " + what, IllegalArgumentException.class, tape, ShutFists::tell);
    }

    private static void rulesOfNoRow() {
        Kit.due("all of 10 times 100", some().rules(false), 1000);
        Kit.due("the least of all", some().rules(true), 0);
        Kit.due("what parts all", some().tell(), 2);
    }

    private static void rulesOfTwentyRows() {
        int[] tape = new int[40];
        Kit.due("20 rows", Kit.tape(some(), tape).rules(false), 1);
        for (int row = 0; row < 20; row++) {
            int[] bytes = new int[40];
            bytes[2 * row + 1] = 1;
            Kit.due("each row counts", Kit.tape(some(), bytes).rules(false), 0);
        }
        livesRefused("21 rows", new int[42]);
        livesRefused("41 bytes", new int[41]);
        livesRefused("1 byte", 0);
        livesRefused("3 bytes", 0, 1, 2);
        livesRefused("400 bytes", new int[400]);
    }

    private static void rulesOutOfBounds() {
        livesRefused("thing 8", 8, 0);
        livesRefused("thing 255", 255, 0);
        livesRefused("thing 8 behind a right one", 0, 0, 8, 0);
        int[] last = new int[40];
        last[38] = 8;
        livesRefused("thing 8 in the last row", last);
        ShutFists x = Kit.tape(things(0, "0 0 0 0"), 7, 255);
        Kit.due("thing 7 and fate 255 are right", x.rules(false), 0);
        Kit.tapeHas("used up", x, 0);
    }

    private static void rulesOfTheEnds() {
        ShutFists x = things(0, "0 0 0 1", "0 0 0 99", "0 0 0 0", "0 0 0 17");
        Kit.due("m 9 and k 99: 108", Kit.tape(x, 0, 108).rules(true), 999);
        Kit.due("them alone", Kit.tape(x, 0, 108).rules(false), 1);
        Kit.due("109 is too much", Kit.tape(x, 0, 109).rules(false), 0);
        Kit.due("m 0 and k 0: 0", Kit.tape(x, 0, 0).rules(true), 0);
        Kit.due("them alone", Kit.tape(x, 0, 0).rules(false), 1);
        Kit.due("k 99 of worth 0", Kit.tape(x, 2, 99).rules(false), 10);
        Kit.due("k 100 is too much", Kit.tape(x, 2, 100).rules(false), 0);
        Kit.due("the least m", Kit.tape(x, 2, 99).rules(true), 99);
        Kit.due("fate 255 by 17", Kit.tape(x, 3, 255).rules(false), 0);
        Kit.due("fate 252 by 17", Kit.tape(x, 3, 252).rules(true), 999);
        Kit.due("99 times 2 and 57", Kit.tape(x, 1, 255).rules(true), 257);
        Kit.due("led exactly, without slips", Kit.tape(x, 0, 108, 2, 98).rules(false), 0);
        Kit.due("without a weight too", Kit.tape(x, 1, 99).rules(false), 2);
    }

    private static void rulesOfNone() {
        Kit.due("none fits", Kit.tape(some(), 0, 0, 0, 1).rules(false), 0);
        Kit.due("the least of none", Kit.tape(some(), 0, 0, 0, 1).rules(true), -1);
    }

    private static void tellOfFewerThanTwo() {
        Kit.due("none", Kit.tape(some(), 0, 0, 0, 1).tell(), -1);
        Kit.due("one", Kit.tape(some(), 0, 0).tell(), -1);
        ShutFists x = Kit.tape(some(), 2, 99);
        Kit.due("two: 0 99 and 1 0", Kit.tape(some(), 2, 99).rules(false), 2);
        Kit.due("99 and 40, 99 and 9: thing 0 parts them", x.tell(), 0);
        Kit.tapeHas("used up", x, 0);
    }

    private static void tellOfSeveral() {
        Kit.due("parts of 2 each: the least", things(0, "1 0 0 50", "1 0 0 99", "1 0 0 99").tell(), 0);
        Kit.due("parts of 4, 2 and 2: of several the least", things(0, "1 0 0 33", "1 0 0 99", "1 0 0 99").tell(), 1);
        Kit.due("none parts by worth: the least", things(1).tell(), 0);
        Kit.due("the last thing", things(0, "0 0 0 0", "0 0 0 0", "0 0 0 0", "0 0 0 0", "0 0 0 0", "0 0 0 0", "0 0 0 0", "0 0 0 99").tell(), 7);
        Kit.due("a thing of the same worth parts none: the next", Kit.tape(things(0, "1 0 0 10", "1 0 0 20"), 0, 50).tell(), 1);
        Kit.due("nor one that leads all to the same: the least", Kit.tape(things(0, "1 0 0 10"), 1, 50).tell(), 0);
    }

    private static ShutFists resting() {
        ShutFists x = Kit.parish("thing a meant 1 size 0 warm 0 worth 18;child a grip 0;child b grip 1;child c grip 0");
        Kit.openFist(x, 2);
        return x;
    }

    private static void restsOfNone() {
        for (int c : new int[] {-1, 3, 8, Integer.MIN_VALUE, Integer.MAX_VALUE}) {
            Kit.refused("rests of " + c, IndexOutOfBoundsException.class, EdgeFeelTest::resting, x -> x.rests(c));
        }
    }

    private static void restsOfOpened() {
        Kit.due("none, if it is opened", resting().rests(2), -1);
        ShutFists x = Kit.tape(resting(), 0, 9, 3, 3);
        Kit.due("no row counts", x.rests(0), 1);
        Kit.tapeHas("the tape is left alone", x, 4);
    }

    /** What was told of other feels or lives ahead of it does not count. */
    private static void restsWithoutARow() {
        ShutFists x = resting();
        Kit.due("none fits what is felt", Kit.tape(x, 0, 9).feels(0), 0);
        Kit.due("rests behind feels", x.rests(0), 1);
        Kit.tape(x, 2, 9).ask();
        Kit.due("rests behind ask", x.rests(0), 1);
        Kit.tape(x, 1, 9).odds(0);
        Kit.due("rests behind odds", x.rests(0), 1);
        Kit.tape(x, 1, 7, 2, 7).rules(true);
        Kit.due("rests behind rules", x.rests(0), 1);
        Kit.due("feels without a row behind all", Kit.tape(x).feels(0), 511);
    }

    /** Expect is 2, 1 and 0 here; a grip of 0 makes opened and held as good as let be and held. */
    private static void restsOfLikeChoices() {
        Kit.due("grip 0, expect 2", resting().rests(0), 1);
        Kit.due("grip 1, expect 2", resting().rests(1), 0);
        ShutFists one = Kit.parish("thing a meant 1 size 0 warm 0 worth 9;child a grip 0;child b grip 9");
        Kit.due("grip 0, expect 1, its half is 0", one.rests(0), 1);
        Kit.due("grip 9, expect 1", one.rests(1), 0);
        ShutFists none = Kit.parish("child a grip 0;child b grip 1");
        Kit.due("grip 0, expect 0: let be and let go is alike", none.rests(0), 9);
        Kit.due("grip 1, expect 0", none.rests(1), 8);
        ShutFists noWeights = things(0, "0 0 0 50");
        Kit.text(noWeights, "child a grip 0;child a grip 3").parish();
        Kit.due("without weights, expect 0", noWeights.rests(0), 9);
        Kit.due("without weights, grip 3", noWeights.rests(1), 8);
    }

    private static void nothingOutOfBounds() {
        int[] wrong = Arrays.copyOf(NO_NUMBER, NO_NUMBER.length + 3);
        wrong[NO_NUMBER.length] = -1;
        wrong[NO_NUMBER.length + 1] = 5;
        wrong[NO_NUMBER.length + 2] = 6;
        for (int n : wrong) {
            Kit.refused("nothing of " + n, IllegalArgumentException.class, EdgeFeelTest::some, x -> x.nothing(n));
        }
    }

    private static void nothingOfNoBirth() {
        Kit.due("no birth", some().nothing(0), 10000);
        Kit.due("no birth without weights", things(0).nothing(0), 10000);
    }

    private static void nothingRoundedEachTime() {
        ShutFists x = things(2, "1 0 0 0");
        int[] odds = {10000, 6666, 4444, 2962, 1974};
        for (int n = 0; n <= 4; n++) {
            Kit.due("nothing of " + n, x.nothing(n), odds[n]);
        }
        Kit.due("all is nothing", things(9).nothing(4), 10000);
    }

    private static void nothingWithoutWeights() {
        for (int n = 1; n <= 4; n++) {
            Kit.due("no weights", things(0).nothing(n), 0);
            Kit.due("no weight of nothing", things(0, "1 0 0 0").nothing(n), 0);
        }
    }
}
