import java.util.ArrayDeque;
import java.util.HashMap;
import java.util.Map;
import java.util.Random;

/** Promises 11 and 17 to 19: what can be moved in a knot, and the fewest moves by which it is cut by itself. */
public final class KnotTest {
    public static void main(String[] args) {
        withoutKnot();
        whatCanBeMoved();
        fewestMovesCutIt();
        wandering();
        Kit.close("KnotTest");
    }

    private static void withoutKnot() {
        ShutFists x = Kit.parish("child a;child b;child c;knot 0 2");
        Kit.due("moves", x.moves(1), -1);
        Kit.due("first", x.first(1), -1);
        Kit.due("can", x.can(1), 0);
        Kit.raises("moves of none", IndexOutOfBoundsException.class, () -> x.moves(3));
        Kit.raises("first of none", IndexOutOfBoundsException.class, () -> x.first(-1));
        Kit.raises("can of none", IndexOutOfBoundsException.class, () -> x.can(3));
        x.cut(2);
        Kit.due("moves behind a cut", x.moves(0), -1);
        Kit.due("can behind a cut", x.can(0), 0);
    }

    private static void whatCanBeMoved() {
        ShutFists x = Kit.parish("child a;child b;knot 0 1");
        Kit.due("can", x.can(0), 99);
        Kit.raises("2 behind two that are shut", IllegalStateException.class, () -> x.move(0, 2));
        Kit.due("thumb", x.move(0, 0), 30);
        Kit.due("thumb alone, or 2; and the other one", x.can(1), 101);
        Kit.raises("1 behind an open thumb", IllegalStateException.class, () -> x.move(0, 1));
        Kit.due("2", x.move(0, 2), 26);
        Kit.due("the other one's thumb", x.move(1, 0), 30);
        Kit.raises("2 of the other one, as the first one's is open", IllegalStateException.class, () -> x.move(1, 2));
        Kit.due("thumb shut", x.move(0, 0), 27);
        Kit.due("1", x.move(0, 1), 25);
        Kit.due("thumb of the other one shut again", x.move(1, 0), 31);
        Kit.raises("1 of the other one, as the first one's is open", IllegalStateException.class, () -> x.move(1, 1));
    }

    private static void fewestMovesCutIt() {
        ShutFists x = Kit.parish("thing a meant 1 size 0 warm 0 worth 9;child b;child a;child c;knot 2 1");
        Kit.law(x, "lead 50 if knotted;lead 5 if shut > 0");
        for (int left = 21; left > 0; left--) {
            Kit.due("moves", x.moves(1), left);
            Kit.due("moves", x.moves(2), left);
            int move = x.first(2);
            Kit.due("of the lesser one alone", move < 5, true);
            x.move(move < 5 ? 1 : 2, move % 5);
        }
        Kit.due("no knot", x.knotted(), 0);
        Kit.due("opened", x.open(), 2);
        Kit.due("keeps", x.child(1, 5), 0);
        Kit.due("led to when it had no knot", x.child(1, 6), 9);
        Kit.due("the other one is shut", x.child(2, 2), 31);
        Kit.due("the other one moves as it will", x.move(2, 4), 15);
    }

    /** A walk by any moves, each answer held against a search forward from where it is. */
    private static void wandering() {
        Random random = new Random(5);
        for (int run = 0; run < 6; run++) {
            ShutFists x = Kit.parish(run % 2 == 0 ? "child a;child b;knot 0 1" : "child a;child b;knot 1 0");
            for (int i = 0; i < 60 && x.child(0, 8) == 1; i++) {
                int pair = x.child(0, 2) | x.child(1, 2) << 5;
                int bits = 0;
                for (int move = 0; move < 10; move++) {
                    bits |= can(pair, move) ? 1 << move : 0;
                }
                Kit.due("can " + pair, x.can(i % 2), bits);
                int far = far(pair);
                int first = -1;
                for (int move = 9; move >= 0; move--) {
                    if (can(pair, move) && far(pair ^ 1 << move) == far - 1) {
                        first = move;
                    }
                }
                Kit.due("moves " + pair, x.moves(i % 2), far);
                Kit.due("first " + pair, x.first(i % 2), first);
                int move = random.nextInt(10);
                if (can(pair, move)) {
                    x.move(move / 5, move % 5);
                } else {
                    Kit.raises("move " + move, IllegalStateException.class, () -> x.move(move / 5, move % 5));
                }
            }
        }
    }

    private static boolean can(int pair, int move) {
        int[] fingers = {pair & 31, pair >> 5};
        int f = move % 5;
        int mine = fingers[move / 5];
        if (f == 0) {
            return true;
        }
        for (int g = 0; g < f - 1; g++) {
            if ((mine >> g & 1) == 1) {
                return false;
            }
        }
        return (mine >> (f - 1) & 1) == 1 && (fingers[1 - move / 5] >> f & 1) == 1;
    }

    private static int far(int from) {
        Map<Integer, Integer> seen = new HashMap<>();
        ArrayDeque<Integer> queue = new ArrayDeque<>();
        seen.put(from, 0);
        queue.add(from);
        while (!queue.isEmpty()) {
            int pair = queue.poll();
            if ((pair & 31) == 0 || pair >> 5 == 0) {
                return seen.get(pair);
            }
            for (int move = 0; move < 10; move++) {
                int to = pair ^ 1 << move;
                if (can(pair, move) && !seen.containsKey(to)) {
                    seen.put(to, seen.get(pair) + 1);
                    queue.add(to);
                }
            }
        }
        return -1;
    }
}
