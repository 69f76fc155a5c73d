import java.util.NoSuchElementException;

/** Promises 7 to 16 and 49 to 55: what is told of things and children, the acts, the log, undoing and the image. */
public final class ActTest {
    public static void main(String[] args) {
        facts();
        months();
        monthsOfMany();
        caps();
        births();
        moves();
        blowing();
        telling();
        changing();
        cutting();
        fate();
        logs();
        seeds();
        undoing();
        undoneLimit();
        images();
        counts();
        Kit.close("ActTest");
    }

    private static void facts() {
        ShutFists x = Kit.parish("thing a meant 1 size 2 warm 3 worth 50;child a grip 0 wish a;child a wish a;child b wish a");
        Kit.due("price", x.thing(0, 4), 150);
        Kit.openFist(x, 0);
        Kit.due("price with one keeper", x.thing(0, 4), 75);
        Kit.openFist(x, 1);
        Kit.due("price with two keepers", x.thing(0, 4), 50);
        Kit.openFist(x, 2);
        x.wish(1, 2);
        Kit.due("price rounded down", x.thing(0, 4), 33);
        Kit.raises("thing -1", IndexOutOfBoundsException.class, () -> x.thing(-1, 0));
        Kit.raises("thing 8", IndexOutOfBoundsException.class, () -> x.thing(8, 9));
        Kit.raises("thing what -1", NoSuchElementException.class, () -> x.thing(7, -1));
        Kit.raises("thing what 5", NoSuchElementException.class, () -> x.thing(0, 5));
        Kit.raises("child -1", IndexOutOfBoundsException.class, () -> x.child(-1, 0));
        Kit.raises("child 3", IndexOutOfBoundsException.class, () -> x.child(3, 99));
        Kit.raises("child what -1", NoSuchElementException.class, () -> x.child(0, -1));
        Kit.raises("child what 12", NoSuchElementException.class, () -> x.child(0, 12));
    }

    /** Draws from seed 1, modulo 100: 38 58 13 15 51 27 10 19 12 86. */
    private static void months() {
        ShutFists x = Kit.parish("thing a meant 1 size 0 warm 0 worth 7;child a grip 0;month 3");
        Kit.law(x, "loosen 30");
        int[] shut = {30, 30, 28, 24, 24, 16, 0};
        for (int i = 0; i < shut.length; i++) {
            Kit.due("opened in month " + i, x.months(1), i == 6 ? 1 : 0);
            Kit.due("fingers behind month " + i, x.child(0, 2), shut[i]);
            Kit.due("age", x.child(0, 0), i + 1);
            Kit.due("month", x.count(3), 4 + i);
        }
        Kit.due("opened", x.child(0, 7), 1);
        Kit.due("keeps", x.child(0, 5), 0);
        Kit.due("inside stays", x.child(0, 1), 0);
        Kit.due("fate", x.child(0, 6), 7);
        Kit.due("months", x.months(5), 0);
        Kit.due("no age once opened", x.child(0, 0), 7);
        Kit.due("month", x.count(3), 15);
        Kit.due("no draw once opened", x.seed(1), draws(1, 7));
        Kit.raises("0 months", IllegalArgumentException.class, () -> x.months(0));
        Kit.raises("121 months", IllegalArgumentException.class, () -> x.months(121));
        Kit.raises("-1 months", IllegalArgumentException.class, () -> x.months(-1));
        Kit.due("120 months", x.months(120), 0);
        Kit.due("just below does not open", edge(28), 31);
        Kit.due("above opens", edge(29), 30);
    }

    /** Fingers behind one month with a draw of 38 in hundred, when it loosens by 10 and this. */
    private static int edge(int loosen) {
        ShutFists x = Kit.parish("child a grip 0");
        Kit.law(x, "loosen " + loosen);
        x.months(1);
        return x.child(0, 2);
    }

    private static int draws(int seed, int n) {
        long s = seed;
        for (int i = 0; i < n; i++) {
            s = (s * 1103515245L + 12345L) & 0xffffffffL;
        }
        return (int) s;
    }

    private static void monthsOfMany() {
        ShutFists x = Kit.parish("child a grip 0;child b grip 0;child c grip 0;child d grip 0;knot 0 1");
        Kit.law(x, "loosen 100");
        Kit.due("two open in five months", x.months(5), 2);
        Kit.due("open", x.open(), 12);
        Kit.due("a knot holds", x.child(0, 2) + x.child(1, 2), 62);
        Kit.due("age of the knotted", x.child(1, 0), 5);
        Kit.due("draws of the knotted too", x.seed(5), draws(1, 20));
        Kit.due("by numbers", x.log(1, 1), 2);
        Kit.due("by numbers", x.log(0, 1), 3);
        ShutFists y = Kit.parish("child a grip 0;child a grip 0");
        Kit.law(y, "loosen 30");
        y.months(1);
        Kit.due("38 for the first", y.child(0, 2), 30);
        Kit.due("58 for the second", y.child(1, 2), 31);
        ShutFists z = Kit.parish("child a age 4 grip 0");
        Kit.law(z, "loosen 100 if age > 4 and month < 1");
        z.months(2);
        Kit.due("by the age that is 1 more, in the month that is", z.child(0, 2), 30);
    }

    private static void caps() {
        ShutFists x = Kit.parish("child a age 998 grip 9;month 999");
        x.months(3);
        Kit.due("age 999 at most", x.child(0, 0), 999);
        for (int i = 0; i < 76; i++) {
            x.months(120);
        }
        Kit.due("month", x.count(3), 9999);
        x.months(1);
        Kit.due("month 9999 at most", x.count(3), 9999);
    }

    /** Draws from seed 1: 16838, 5758, 10113, 17515, 31051, 5627, 23010, 7419. */
    private static void births() {
        ShutFists x = new ShutFists();
        int[] inside = {16838 % 9, 5758 % 9, 10113 % 9, 17515 % 9, 31051 % 9, 5627 % 9, 23010 % 9, 7419 % 9};
        for (int i = 0; i < 8; i++) {
            Kit.due("birth", x.birth(), i);
            Kit.due("inside", x.child(i, 1), inside[i]);
        }
        int[] fresh = {0, inside[7], 31, 5, -1, -1, 0, 0, -1, 0, 0, 0};
        for (int what = 0; what < 12; what++) {
            Kit.due("as at first " + what, x.child(7, what), fresh[what]);
        }
        Kit.raises("a 9th child", IllegalStateException.class, x::birth);
        Kit.due("draws", x.seed(1), draws(1, 8));
        StringBuilder text = new StringBuilder("empty 0");
        for (char t = 'a'; t <= 'h'; t++) {
            text.append(";thing ").append(t).append(" meant 0 size 0 warm 0 worth 0");
        }
        ShutFists y = Kit.parish(text.toString());
        Kit.due("birth without weights", y.birth(), 0);
        Kit.due("nothing", y.child(0, 1), 8);
        Kit.due("no draw", y.seed(1), 1);
        Kit.text(y, "thing c meant 3 size 0 warm 0 worth 0;empty 2").parish();
        y.birth();
        Kit.due("16838 modulo 5 is 3: nothing", y.child(1, 1), 8);
        y.birth();
        Kit.due("5758 modulo 5 is 3: nothing", y.child(2, 1), 8);
        Kit.text(y, "empty 1").parish();
        y.birth();
        Kit.due("10113 modulo 4 is 1: c", y.child(3, 1), 2);
        y.birth();
        Kit.due("17515 modulo 4 is 3: nothing", y.child(4, 1), 8);
    }

    private static void moves() {
        ShutFists x = Kit.parish("thing b meant 1 size 0 warm 0 worth 30;child b;child none");
        Kit.due("open 3", x.move(0, 3), 23);
        Kit.due("shut 3", x.move(0, 3), 31);
        Kit.due("open 0", x.move(0, 0), 30);
        x.move(0, 4);
        x.move(0, 2);
        x.move(0, 1);
        Kit.due("not opened", x.child(0, 7), 0);
        Kit.due("the last one", x.move(0, 3), 0);
        Kit.due("opened", x.child(0, 7), 1);
        Kit.due("keeps", x.child(0, 5), 1);
        Kit.due("fate", x.child(0, 6), 30);
        Kit.raises("an opened one", IllegalStateException.class, () -> x.move(0, 0));
        Kit.openFist(x, 1);
        Kit.due("nothing: nothing", x.child(1, 5), -1);
        Kit.due("opened on nothing", x.child(1, 7), 1);
        Kit.raises("no such child", IndexOutOfBoundsException.class, () -> x.move(2, 0));
        Kit.raises("no such child", IndexOutOfBoundsException.class, () -> x.move(-1, 0));
        Kit.raises("no such finger", IndexOutOfBoundsException.class, () -> x.move(0, 5));
        Kit.raises("no such finger", IndexOutOfBoundsException.class, () -> x.move(0, -1));
    }

    private static void blowing() {
        ShutFists x = Kit.parish("child c");
        Kit.raises("nothing yet", IllegalStateException.class, () -> x.blow(0));
        Kit.openFist(x, 0);
        Kit.due("blow", x.blow(0), 2);
        Kit.due("keeps", x.child(0, 5), -1);
        Kit.due("inside", x.child(0, 1), 2);
        Kit.raises("nothing more", IllegalStateException.class, () -> x.blow(0));
        Kit.raises("no such child", IndexOutOfBoundsException.class, () -> x.blow(1));
    }

    private static void telling() {
        ShutFists x = Kit.parish("child a");
        Kit.due("wish", x.wish(0, 7), -1);
        Kit.due("wish", x.wish(0, -1), 7);
        Kit.due("wish", x.wish(0, 0), -1);
        Kit.due("wish", x.child(0, 4), 0);
        Kit.raises("wish 8", IndexOutOfBoundsException.class, () -> x.wish(0, 8));
        Kit.raises("wish -2", IndexOutOfBoundsException.class, () -> x.wish(0, -2));
        Kit.raises("wish of none", IndexOutOfBoundsException.class, () -> x.wish(1, 0));
        Kit.due("grip", x.grip(0, 9), 5);
        Kit.due("grip", x.grip(0, 0), 9);
        Kit.due("grip", x.child(0, 3), 0);
        Kit.raises("grip 10", IllegalArgumentException.class, () -> x.grip(0, 10));
        Kit.raises("grip -1", IllegalArgumentException.class, () -> x.grip(0, -1));
        Kit.raises("grip of none", IndexOutOfBoundsException.class, () -> x.grip(1, 99));
        Kit.openFist(x, 0);
        Kit.due("wish of an opened one", x.wish(0, 3), 0);
        Kit.due("grip of an opened one", x.grip(0, 3), 0);
    }

    private static void changing() {
        ShutFists x = Kit.parish("child a;child none;child c");
        Kit.openFist(x, 0);
        Kit.openFist(x, 1);
        Kit.due("change with nothing", x.change(0, 1), -1);
        Kit.due("the other one keeps it", x.child(1, 5), 0);
        Kit.due("change back", x.change(0, 1), 0);
        Kit.raises("not opened", IllegalStateException.class, () -> x.change(0, 2));
        Kit.raises("not opened", IllegalStateException.class, () -> x.change(2, 0));
        Kit.raises("both are one", IllegalArgumentException.class, () -> x.change(2, 2));
        Kit.raises("no such child", IndexOutOfBoundsException.class, () -> x.change(3, 3));
        Kit.raises("no such other", IndexOutOfBoundsException.class, () -> x.change(0, -1));
        Kit.openFist(x, 2);
        Kit.due("change", x.change(0, 2), 2);
        Kit.due("changed", x.child(2, 5), 0);
        Kit.due("inside stays", x.child(2, 1), 2);
    }

    private static void cutting() {
        ShutFists x = Kit.parish("child a;child b;child c;knot 2 0");
        Kit.due("cut", x.cut(0), 2);
        Kit.due("knotted", x.knotted(), 0);
        Kit.raises("cut twice", IllegalStateException.class, () -> x.cut(2));
        Kit.raises("cut of one without", IllegalStateException.class, () -> x.cut(1));
        Kit.raises("cut of none", IndexOutOfBoundsException.class, () -> x.cut(3));
        Kit.due("free to move", x.move(0, 4), 15);
    }

    private static void fate() {
        ShutFists x = Kit.parish("thing a meant 1 size 0 warm 0 worth 99;child a;child a;child b;child none;month 3");
        Kit.law(x, "lead 100 if child < 1;lead 100 if child < 1;lead 100 if child < 1;lead 100 if child < 1;"
                + "lead 100 if child < 1;lead 100 if child < 1;lead 100 if child < 1;lead 100 if child < 1;"
                + "lead 100 if child < 1;lead 100 if child < 1;lead 1 if shut < 1 and month > 2;lead 3 if nothing");
        Kit.due("leads to", x.child(0, 10), 1099);
        Kit.openFist(x, 0);
        Kit.due("fate 999 at most", x.child(0, 6), 999);
        Kit.openFist(x, 1);
        Kit.due("led with no finger shut", x.child(1, 6), 100);
        Kit.openFist(x, 2);
        Kit.due("led by the law alone", x.child(2, 6), 1);
        Kit.openFist(x, 3);
        Kit.due("led by nothing", x.child(3, 6), 4);
        Kit.due("fates", x.count(6), 1104);
        Kit.due("share", x.child(0, 11), 90);
        Kit.due("share", x.child(1, 11), 9);
        Kit.due("share", x.child(2, 11), 0);
        ShutFists least = Kit.parish("thing a meant 1 size 0 warm 0 worth 1;child a;child b");
        Kit.openFist(least, 1);
        Kit.due("no fate, no share", least.child(1, 11), 0);
        Kit.openFist(least, 0);
        Kit.due("all there is", least.child(0, 11), 100);
    }

    private static void logs() {
        ShutFists x = Kit.parish("thing a meant 1 size 0 warm 0 worth 20;child a age 3;child none age 9;child b;month 41");
        Kit.due("none", x.log(0, 4), -1);
        Kit.due("led of none", x.led(0, false), -1);
        Kit.openFist(x, 1);
        Kit.due("nothing inside", x.log(0, 2), 8);
        x.months(2);
        Kit.openFist(x, 0);
        int[] row = {43, 0, 0, 5, 20};
        int[] before = {41, 1, 8, 9, 0};
        for (int what = 0; what < 5; what++) {
            Kit.due("log 0 " + what, x.log(0, what), row[what]);
            Kit.due("log 1 " + what, x.log(1, what), before[what]);
            Kit.due("log 2 " + what, x.log(2, what), -1);
            Kit.due("log -1 " + what, x.log(-1, what), -1);
        }
        Kit.due("rows", x.count(8), 2);
        Kit.due("log of the far", x.log(Integer.MAX_VALUE, 0) + x.log(Integer.MIN_VALUE, 0), -2);
        Kit.raises("log what 5", NoSuchElementException.class, () -> x.log(0, 5));
        Kit.raises("log what -1", NoSuchElementException.class, () -> x.log(9, -1));
        Kit.due("led", x.led(0, false), 43);
        Kit.due("led", x.led(0, true), 0);
        Kit.due("led", x.led(1, false), 41);
        Kit.due("led", x.led(1, true), 8);
        Kit.due("led", x.led(2, true), -1);
        Kit.raises("led of none", IndexOutOfBoundsException.class, () -> x.led(3, true));
        x.blow(0);
        Kit.due("what was inside stays in the log", x.log(0, 2), 0);
    }

    private static void seeds() {
        ShutFists x = new ShutFists();
        Kit.due("seed", x.seed(-5), 1);
        Kit.due("seed", x.seed(7), -5);
        Kit.due("a seed is no act", x.count(9), 0);
        x.birth();
        Kit.due("seed", x.seed(Integer.MIN_VALUE), draws(7, 1));
        x.birth();
        long s = (0x80000000L * 1103515245L + 12345L) & 0xffffffffL;
        Kit.due("a draw has no sign", x.child(1, 1), ((s >> 16) & 0x7fff) % 9);
    }

    private static void undoing() {
        ShutFists x = Kit.parish("thing a meant 1 size 0 warm 0 worth 20;child a grip 0;child b;child c;knot 1 2;month 5");
        Kit.law(x, "loosen 100");
        Kit.due("none", x.undo(), false);
        x.months(7);
        Kit.due("months are one", x.count(9), 1);
        Kit.due("log", x.count(8), 1);
        x.seed(99);
        Kit.due("undo", x.undo(), true);
        Kit.due("month", x.count(3), 5);
        Kit.due("age", x.child(0, 0), 0);
        Kit.due("fingers", x.child(0, 2), 31);
        Kit.due("opened", x.child(0, 7), 0);
        Kit.due("log", x.count(8), 0);
        Kit.due("fate", x.count(6), 0);
        Kit.due("seed as ahead of it", x.seed(1), 1);
        x.wish(0, -1);
        x.grip(0, 0);
        Kit.due("acts that change nothing", x.count(9), 2);
        x.birth();
        x.cut(1);
        x.move(0, 0);
        Kit.due("undo the move", x.undo(), true);
        Kit.due("fingers", x.child(0, 2), 31);
        Kit.due("cut still", x.knotted(), 0);
        Kit.due("undo the cut", x.undo(), true);
        Kit.due("knot", x.knotted(), 6);
        Kit.due("undo the birth", x.undo(), true);
        Kit.due("children", x.count(0), 3);
        Kit.due("undo the rest", x.undo() && x.undo(), true);
        Kit.due("none left", x.undo(), false);
        Kit.openFist(x, 0);
        x.blow(0);
        x.undo();
        Kit.due("undo blowing", x.child(0, 5), 0);
        x.undo();
        Kit.due("undo the opening", x.child(0, 7) + x.count(8), 0);
        Kit.due("keeps nothing", x.child(0, 5), -1);
        Kit.raises("an act that cannot be", IllegalStateException.class, () -> x.blow(0));
        Kit.due("is not remembered", x.count(9), 4);
    }

    private static void undoneLimit() {
        ShutFists x = Kit.parish("child a grip 0");
        for (int i = 1; i <= 20; i++) {
            x.grip(0, i % 10);
            Kit.due("remembered", x.count(9), Math.min(i, 12));
        }
        for (int i = 19; i >= 8; i--) {
            Kit.due("undo", x.undo(), true);
            Kit.due("grip", x.child(0, 3), i % 10);
        }
        Kit.due("12 are remembered", x.undo(), false);
        x.grip(0, 3);
        Kit.due("one more", x.undo(), true);
        Kit.due("grip", x.child(0, 3), 8);
        Kit.raises("a fault", IllegalArgumentException.class, () -> Kit.text(x, "x").law());
        x.feed(1, 2, 3, 4, 5);
        x.grip(0, 1);
        Kit.due("undo", x.undo(), true);
        Kit.due("the fault stays", x.fault(), 0);
        Kit.due("the tape stays", x.end(20), true);
    }

    private static void images() {
        ShutFists x = Kit.parish("thing a meant 1 size 0 warm 0 worth 20;child a grip 0");
        x.image();
        Kit.law(x, "loosen 50");
        Kit.text(x, "child b;empty 7;month 9").parish();
        x.seed(77);
        Kit.openFist(x, 0);
        Kit.due("back", x.back(), true);
        Kit.due("no law again", x.count(2), -1);
        Kit.due("loosens", x.child(0, 9), 10);
        Kit.due("children", x.count(0), 1);
        Kit.due("texts", x.count(1), 1);
        Kit.due("month", x.count(3), 0);
        Kit.due("empty", x.count(4), 1);
        Kit.due("log", x.count(8), 0);
        Kit.due("none to undo", x.count(9), 0);
        Kit.due("seed", x.seed(4), 1);
        Kit.law(x, "loosen 50;lead 4 if child < 1");
        Kit.openFist(x, 0);
        x.image();
        Kit.due("an image forgets no act", x.count(9), 5);
        x.feed(1, 2, 3, 4, 5);
        Kit.raises("a wrong text", IllegalArgumentException.class, x::parish);
        Kit.law(x, "grip 1");
        x.undo();
        x.feed(1, 2, 3, 4, 5);
        Kit.due("back", x.back(), true);
        Kit.due("tape stays", x.end(20), true);
        Kit.due("fault stays", x.fault(), -1);
        Kit.due("the law", x.count(2), 2);
        Kit.due("its lines hold", x.child(0, 10), 24);
        Kit.due("opened", x.child(0, 7), 1);
        Kit.due("seed", x.seed(0), 4);
        x.blow(0);
        Kit.due("back once more", x.back(), true);
        Kit.due("keeps", x.child(0, 5), 0);
        Kit.due("undo behind it", x.undo(), false);
    }

    private static void counts() {
        ShutFists x = Kit.parish("thing a meant 9 size 0 warm 0 worth 20;child a;child b;empty 6;month 2", "");
        x.move(1, 2);
        Kit.openFist(x, 0);
        int[] counts = {2, 2, -1, 2, 6, 16, 20, 4, 1, 6};
        for (int what = 0; what < 10; what++) {
            Kit.due("count " + what, x.count(what), counts[what]);
        }
        Kit.due("count 10", x.count(10), -1);
        Kit.due("count -1", x.count(-1), -1);
    }
}
