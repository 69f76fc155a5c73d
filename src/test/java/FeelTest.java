import java.util.HashMap;
import java.util.Map;
import java.util.NoSuchElementException;
import java.util.Random;

/** Promises 20 to 22 and 35 to 38: feels, odds, the laws of leading, choices and births of nothing. */
public final class FeelTest {
    private static final String NO_REST = ";thing d meant 0 size 0 warm 0 worth 0;thing e meant 0 size 0 warm 0 worth 0;"
            + "thing f meant 0 size 0 warm 0 worth 0;thing g meant 0 size 0 warm 0 worth 0;thing h meant 0 size 0 warm 0 worth 0";

    public static void main(String[] args) {
        feels();
        slips();
        feelTapes();
        odds();
        asks();
        rules();
        tells();
        ruleTapes();
        rests();
        nothings();
        lightest();
        byForce();
        Kit.close("FeelTest");
    }

    private static ShutFists three() {
        return Kit.parish("thing a meant 3 size 2 warm 5 worth 40;thing b meant 5 size 7 warm 5 worth 9;"
                + "thing c meant 5 size 3 warm 1 worth 99;empty 2" + NO_REST);
    }

    private static void feels() {
        ShutFists x = three();
        Kit.due("fit", Kit.tape(x).feels(0), 263);
        Kit.due("likely, of several the least", Kit.tape(x).feels(1), 1);
        Kit.due("expect", Kit.tape(x).feels(2), (3 * 40 + 5 * 9 + 5 * 99) / 15);
        Kit.due("two rows", Kit.tape(x, 0, 2, 1, 4).feels(0), 1);
        Kit.due("worth by 10", Kit.tape(x, 2, 10).feels(0), 4);
        Kit.due("worth by 10", Kit.tape(x, 2, 0).feels(0), 258);
        Kit.due("worth by 10", Kit.tape(x, 2, 0).feels(2), 45 / 7);
        Kit.due("none fits", Kit.tape(x, 0, 7, 1, 1).feels(0), 0);
        Kit.due("likely of none", Kit.tape(x, 0, 7, 1, 1).feels(1), -1);
        Kit.due("expect of none", Kit.tape(x, 0, 7, 1, 1).feels(2), 0);
        Kit.due("nothing is likely", Kit.tape(x, 0, 0, 1, 0).feels(1), 8);
        Kit.text(x, "empty 0").parish();
        Kit.due("nothing without weight", Kit.tape(x, 0, 0).feels(0), 0);
    }

    private static void slips() {
        ShutFists x = three();
        int[] fits = {256, 257, 5, 5, 4, 0, 2, 2, 2, 0, 0};
        for (int size = 0; size <= 10; size++) {
            Kit.due("size " + size, Kit.tape(x, 0, size).feels(0), fits[size]);
        }
        Kit.due("20 rows", Kit.tape(x, new int[40]).feels(0), 256);
    }

    private static void feelTapes() {
        ShutFists x = three();
        int[][] wrong = {{0}, {3, 0}, {0, 11}, {0, 1, 2}, {255, 0}, {0, 255}, new int[42], {0, 1, 1, 1, 3, 1}};
        for (int[] tape : wrong) {
            Kit.raises("feels", IllegalArgumentException.class, () -> Kit.tape(x, tape).feels(0));
            Kit.due("used up", x.end(1), false);
            Kit.raises("feels of another what", IllegalArgumentException.class, () -> Kit.tape(x, tape).feels(9));
            Kit.raises("odds", IllegalArgumentException.class, () -> Kit.tape(x, tape).odds(0));
            Kit.due("used up", x.end(1), false);
            Kit.raises("odds of another thing", IndexOutOfBoundsException.class, () -> Kit.tape(x, tape).odds(9));
            Kit.due("used up", x.end(1), false);
            Kit.raises("ask", IllegalArgumentException.class, () -> Kit.tape(x, tape).ask());
            Kit.due("used up", x.end(1), false);
        }
        Kit.raises("another what", NoSuchElementException.class, () -> Kit.tape(x, 0, 1).feels(3));
        Kit.due("used up", x.end(1), false);
        Kit.raises("another what", NoSuchElementException.class, () -> Kit.tape(x).feels(-1));
        Kit.due("a tape is no text", x.fault(), -1);
    }

    private static void odds() {
        ShutFists x = three();
        Kit.due("odds", Kit.tape(x).odds(0), 2000);
        Kit.due("odds", Kit.tape(x).odds(1), 3333);
        Kit.due("odds of nothing", Kit.tape(x).odds(8), 1333);
        Kit.due("odds of none", Kit.tape(x).odds(7), 0);
        Kit.due("odds by a feel", Kit.tape(x, 0, 2).odds(0), 3750);
        Kit.due("odds of one that does not fit", Kit.tape(x, 0, 2).odds(1), 0);
        Kit.due("odds when none fits", Kit.tape(x, 0, 9).odds(0), 0);
        Kit.raises("odds -1", IndexOutOfBoundsException.class, () -> Kit.tape(x).odds(-1));
        Kit.raises("odds 9", IndexOutOfBoundsException.class, () -> Kit.tape(x, 0, 1).odds(9));
        Kit.due("used up", x.end(1), false);
    }

    private static void asks() {
        ShutFists x = three();
        Kit.due("size parts all four, and worth: size", Kit.tape(x).ask(), 0);
        Kit.due("none with one", Kit.tape(x, 0, 7).ask(), -1);
        Kit.due("none with none", Kit.tape(x, 0, 9).ask(), -1);
        Kit.due("a and c", Kit.tape(x, 0, 2).ask(), 0);
        ShutFists warm = Kit.parish("thing a meant 1 size 2 warm 5 worth 40;thing b meant 5 size 2 warm 4 worth 49;"
                + "thing c meant 1 size 2 warm 3 worth 40;empty 0" + NO_REST);
        Kit.due("warm", Kit.tape(warm).ask(), 1);
        Kit.due("warm of two, too", Kit.tape(warm, 1, 6).ask(), -1);
        ShutFists worth = Kit.parish("thing a meant 1 size 2 warm 5 worth 40;thing b meant 5 size 2 warm 5 worth 50;"
                + "thing c meant 1 size 2 warm 5 worth 41;empty 0" + NO_REST);
        Kit.due("worth by 10", Kit.tape(worth).ask(), 2);
        ShutFists alike = Kit.parish("thing a meant 1 size 2 warm 5 worth 40;thing b meant 5 size 2 warm 5 worth 49;"
                + "thing c meant 0 size 2 warm 5 worth 0;empty 0" + NO_REST);
        Kit.due("none parts them: the least", Kit.tape(alike).ask(), 0);
        ShutFists many = Kit.parish("thing a meant 9 size 1 warm 0 worth 40;thing b meant 1 size 2 warm 1 worth 40;"
                + "thing c meant 1 size 2 warm 2 worth 40;empty 1" + NO_REST);
        Kit.due("by how many, not by weights", Kit.tape(many).ask(), 0);
    }

    private static void rules() {
        ShutFists x = three();
        Kit.due("all", Kit.tape(x).rules(false), 1000);
        Kit.due("the least of all", Kit.tape(x).rules(true), 0);
        Kit.due("40 m + k = 100", Kit.tape(x, 0, 100).rules(false), 2);
        Kit.due("m 1, k 60", Kit.tape(x, 0, 100).rules(true), 160);
        Kit.due("m 0, k 40", Kit.tape(x, 0, 40).rules(true), 40);
        Kit.due("both", Kit.tape(x, 0, 100, 1, 38).rules(false), 1);
        Kit.due("m 2, k 20", Kit.tape(x, 0, 100, 1, 38).rules(true), 220);
        Kit.due("no slips", Kit.tape(x, 0, 100, 1, 39).rules(false), 0);
        Kit.due("none", Kit.tape(x, 0, 100, 1, 39).rules(true), -1);
        Kit.due("a thing of no weight and no worth", Kit.tape(x, 7, 99).rules(false), 10);
        Kit.due("fate 255", Kit.tape(x, 1, 255).rules(false), 0);
        Kit.due("fate 255", Kit.tape(x, 2, 255).rules(true), 257);
    }

    private static void tells() {
        ShutFists x = three();
        Kit.due("none with one", Kit.tape(x, 0, 100, 1, 38).tell(), -1);
        Kit.due("none with none", Kit.tape(x, 0, 100, 1, 39).tell(), -1);
        Kit.due("160 and 220 are parted by b", Kit.tape(x, 0, 100).tell(), 1);
        Kit.due("40 m + k: parts of 3; 9: of 10; 99: of 2", Kit.tape(x).tell(), 2);
        Kit.due("one thing of no worth is told", Kit.tape(x, 3, 7).tell(), 0);
        Kit.due("a thing of no worth parts by k, each alike", Kit.tape(new ShutFists()).tell(), 0);
        Kit.text(x, "thing d meant 0 size 0 warm 0 worth 99;thing c meant 0 size 0 warm 0 worth 0").parish();
        Kit.due("one without weight too", Kit.tape(x).tell(), 3);
    }

    private static void ruleTapes() {
        ShutFists x = three();
        int[][] wrong = {{0}, {8, 0}, {0, 1, 2}, {255, 0}, new int[42], {0, 1, 1, 1, 9, 1}};
        for (int[] tape : wrong) {
            Kit.raises("rules", IllegalArgumentException.class, () -> Kit.tape(x, tape).rules(true));
            Kit.due("used up", x.end(1), false);
            Kit.raises("tell", IllegalArgumentException.class, () -> Kit.tape(x, tape).tell());
            Kit.due("used up", x.end(1), false);
        }
        Kit.due("20 rows", Kit.tape(x, new int[40]).rules(false), 1);
        Kit.due("used up", x.end(1), false);
    }

    private static void rests() {
        ShutFists x = Kit.parish("thing a meant 1 size 0 warm 0 worth 90;child a grip 0;child a grip 1;child a");
        Kit.due("opened and held", x.rests(0), 1);
        Kit.due("none rest", x.rests(1), 0);
        Kit.openFist(x, 2);
        Kit.due("an opened one", x.rests(2), -1);
        Kit.raises("rests of none", IndexOutOfBoundsException.class, () -> x.rests(3));
        Kit.tape(x, 0, 9);
        x.rests(0);
        Kit.due("the tape is left alone", x.end(2), true);
        Kit.due("no row of a tape counts", x.rests(0), 1);
        ShutFists poor = Kit.parish("child a grip 0;child a grip 4");
        Kit.due("without worth: held and opened, or let be and let go", poor.rests(0), 9);
        Kit.due("let be and let go", poor.rests(1), 8);
        Kit.text(poor, "thing a meant 1 size 0 warm 0 worth 9").parish();
        Kit.due("expect 1, and its half 0", poor.rests(1), 0);
    }

    private static void nothings() {
        ShutFists x = three();
        int[] odds = {10000, 1333, 177, 23, 3};
        for (int n = 0; n <= 4; n++) {
            Kit.due("nothing " + n, x.nothing(n), odds[n]);
        }
        Kit.raises("nothing -1", IllegalArgumentException.class, () -> x.nothing(-1));
        Kit.raises("nothing 5", IllegalArgumentException.class, () -> x.nothing(5));
        Kit.text(x, "thing a meant 0 size 0 warm 0 worth 0;thing b meant 0 size 0 warm 0 worth 0;"
                + "thing c meant 0 size 0 warm 0 worth 0").parish();
        Kit.due("nothing alone", x.nothing(4), 10000);
        Kit.text(x, "empty 0").parish();
        Kit.due("no weights", x.nothing(1), 0);
        Kit.due("no weights, no births", x.nothing(0), 10000);
        Kit.due("no weights: none fits", Kit.tape(x).feels(0), 0);
        Kit.due("no weights: odds", Kit.tape(x).odds(8), 0);
        Kit.due("no weights: expect", Kit.tape(x).feels(2), 0);
    }

    /** A single weight of 1. */
    private static void lightest() {
        ShutFists x = Kit.parish("thing a meant 0 size 0 warm 0 worth 0;thing b meant 1 size 0 warm 0 worth 70;"
                + "thing c meant 0 size 0 warm 0 worth 0;empty 0" + NO_REST);
        Kit.due("likely", Kit.tape(x).feels(1), 1);
        Kit.due("odds", Kit.tape(x).odds(1), 10000);
        Kit.due("expect", Kit.tape(x).feels(2), 70);
        x.birth();
        Kit.due("birth", x.child(0, 1), 1);
        Kit.text(x, "thing b meant 0 size 0 warm 0 worth 70;empty 1").parish();
        Kit.due("nothing", x.nothing(1), 10000);
    }

    /** What to feel and what to tell, against a count of each part. */
    private static void byForce() {
        Random random = new Random(8);
        for (int run = 0; run < 40; run++) {
            int spread = 2 + random.nextInt(6);
            int[][] facts = new int[9][];
            StringBuilder text = new StringBuilder();
            for (int t = 0; t < 9; t++) {
                facts[t] = new int[] {random.nextInt(3), random.nextInt(spread), random.nextInt(spread), random.nextInt(10 * spread)};
                if (t < 8) {
                    text.append("thing ").append((char) ('a' + t)).append(" meant ").append(facts[t][0]).append(" size ")
                            .append(facts[t][1]).append(" warm ").append(facts[t][2]).append(" worth ").append(facts[t][3]).append(';');
                }
            }
            facts[8] = new int[] {random.nextInt(3), 0, 0, 0};
            ShutFists x = Kit.parish(text + "empty " + facts[8][0]);
            int what = random.nextInt(3);
            int felt = random.nextInt(spread);
            Kit.due("ask of all", Kit.tape(x).ask(), bestFeel(facts, x, new int[0]));
            Kit.due("ask", Kit.tape(x, what, felt).ask(), bestFeel(facts, x, new int[] {what, felt}));
            int thing = random.nextInt(8);
            int fate = random.nextInt(256);
            Kit.due("tell of all", Kit.tape(x).tell(), bestThing(facts, -1, 0));
            Kit.due("tell", Kit.tape(x, thing, fate).tell(), bestThing(facts, thing, fate));
        }
    }

    private static int bestFeel(int[][] facts, ShutFists x, int[] rows) {
        int fits = Kit.tape(x, rows).feels(0);
        int best = -1;
        int least = 99;
        for (int what = 0; what < 3 && Integer.bitCount(fits) > 1; what++) {
            Map<Integer, Integer> parts = new HashMap<>();
            int greatest = 0;
            for (int t = 0; t < 9; t++) {
                if ((fits >> t & 1) != 0) {
                    int felt = what == 2 ? facts[t][3] / 10 : facts[t][what + 1];
                    greatest = Math.max(greatest, parts.merge(felt, 1, Integer::sum));
                }
            }
            if (greatest < least) {
                least = greatest;
                best = what;
            }
        }
        return best;
    }

    private static int bestThing(int[][] facts, int thing, int fate) {
        int best = -1;
        int least = 9999;
        for (int t = 0; t < 8; t++) {
            Map<Integer, Integer> parts = new HashMap<>();
            int greatest = 0;
            int fitting = 0;
            for (int m = 0; m < 10; m++) {
                for (int k = 0; k < 100; k++) {
                    if (thing < 0 || facts[thing][3] * m + k == fate) {
                        greatest = Math.max(greatest, parts.merge(facts[t][3] * m + k, 1, Integer::sum));
                        fitting++;
                    }
                }
            }
            if (fitting > 1 && greatest < least) {
                least = greatest;
                best = t;
            }
        }
        return best;
    }
}
