import java.util.ArrayDeque;
import java.util.Arrays;

/** Promises 11 and 17 to 19, each edge by itself: knots, from each state that a knot can come to. */
public final class EdgeKnotTest {
    private static final int STATES = 1024;

    public static void main(String[] args) {
        knotsOfNone();
        withoutKnot();
        thumbs();
        fingerBehindTheThumb();
        lastFingers();
        allStates(0, 1);
        allStates(5, 2);
        cutByItself(0, 1);
        cutByItself(3, 1);
        theOtherOneIsFree();
        Kit.close("EdgeKnotTest");
    }

    private static ShutFists three() {
        return Kit.parish("child a;child b;child c;knot 2 0");
    }

    private static void knotsOfNone() {
        for (int c : new int[] {-1, 3, 8, Integer.MIN_VALUE, Integer.MAX_VALUE}) {
            Kit.refused("moves of " + c, IndexOutOfBoundsException.class, EdgeKnotTest::three, x -> x.moves(c));
            Kit.refused("first of " + c, IndexOutOfBoundsException.class, EdgeKnotTest::three, x -> x.first(c));
            Kit.refused("can of " + c, IndexOutOfBoundsException.class, EdgeKnotTest::three, x -> x.can(c));
        }
    }

    private static void withoutKnot() {
        ShutFists x = three();
        Kit.due("moves without a knot", x.moves(1), -1);
        Kit.due("first without a knot", x.first(1), -1);
        Kit.due("can without a knot", x.can(1), 0);
        Kit.openFist(x, 1);
        Kit.due("moves of an opened one", x.moves(1), -1);
        Kit.due("first of an opened one", x.first(1), -1);
        Kit.due("can of an opened one", x.can(1), 0);
        x.cut(0);
        for (int c = 0; c < 3; c += 2) {
            Kit.due("moves of a cut one", x.moves(c), -1);
            Kit.due("first of a cut one", x.first(c), -1);
            Kit.due("can of a cut one", x.can(c), 0);
        }
    }

    private static void thumbs() {
        ShutFists x = three();
        Kit.due("a thumb opens", x.move(0, 0), 30);
        Kit.due("the other's thumb, though that one is open", x.move(2, 0), 30);
        Kit.due("a thumb shuts, though the other's is open", x.move(0, 0), 31);
        Kit.due("and the other's", x.move(2, 0), 31);
    }

    private static void fingerBehindTheThumb() {
        ShutFists x = three();
        Kit.due("1 behind a shut thumb", x.move(0, 1), 29);
        Kit.raises("1 of the other one, as the same is open", IllegalStateException.class, () -> x.move(2, 1));
        Kit.due("shut again", x.move(0, 1), 31);
        x.move(0, 0);
        Kit.raises("1 behind an open thumb", IllegalStateException.class, () -> x.move(0, 1));
        Kit.due("2 behind 1 alone", x.move(0, 2), 26);
        Kit.raises("3 behind an open 2", IllegalStateException.class, () -> x.move(0, 3));
        Kit.raises("4 behind 1 that is shut", IllegalStateException.class, () -> x.move(0, 4));
    }

    /** The knot of three(), as far as this state: by the shortest row of moves. */
    private static void lastFingers() {
        int[] from = forward(31 | 31 << 5);
        for (int pair = 0; pair < STATES; pair++) {
            boolean lone = Integer.bitCount(pair & 31) == 1;
            if (from[pair] >= 0 && lone && !isOut(pair)) {
                ShutFists x = at(from, pair, 0, 1);
                int finger = Integer.numberOfTrailingZeros(pair);
                if (can(pair, finger)) {
                    Kit.due("the last finger", x.move(0, finger), 0);
                    Kit.due("it is opened", x.open(), 1);
                    Kit.due("the knot is cut", x.knotted(), 0);
                    Kit.due("keeps", x.child(0, 5), 0);
                    Kit.due("the other one has its fingers as they were", x.child(1, 2), pair >> 5);
                    Kit.due("and keeps nothing", x.child(1, 5), -1);
                }
            }
        }
    }

    /** Each state that moves can bring, held against a search from all ends. */
    private static void allStates(int one, int other) {
        int[] from = forward(31 | 31 << 5);
        int[] far = distances();
        int seen = 0;
        for (int pair = 0; pair < STATES; pair++) {
            if (from[pair] == -1 || isOut(pair)) {
                continue;
            }
            seen++;
            ShutFists x = at(from, pair, one, other);
            int bits = 0;
            int first = -1;
            for (int move = 9; move >= 0; move--) {
                if (can(pair, move)) {
                    bits |= 1 << move;
                    first = far[pair ^ 1 << move] == far[pair] - 1 ? move : first;
                }
            }
            for (int child : new int[] {one, other}) {
                Kit.due("can of " + pair, x.can(child), bits);
                Kit.due("moves of " + pair, x.moves(child), far[pair]);
                Kit.due("first of " + pair, x.first(child), first);
            }
            checkRefusals(x, pair, one, other);
        }
        Kit.due("states were seen", seen > 100, true);
    }

    private static void checkRefusals(ShutFists x, int pair, int one, int other) {
        int[] children = {Math.min(one, other), Math.max(one, other)};
        for (int move = 0; move < 10; move++) {
            int child = children[move / 5];
            int finger = move % 5;
            if (can(pair, move)) {
                Kit.due("move " + move + " of " + pair, x.move(child, finger), (pair ^ 1 << move) >> move / 5 * 5 & 31);
                x.undo();
            } else {
                Kit.raises("move " + move + " of " + pair, IllegalStateException.class, () -> x.move(child, finger));
            }
        }
    }

    private static boolean isOut(int pair) {
        return (pair & 31) == 0 || pair >> 5 == 0;
    }

    private static boolean can(int pair, int move) {
        int mine = move < 5 ? pair & 31 : pair >> 5;
        int others = move < 5 ? pair >> 5 : pair & 31;
        int finger = move % 5;
        if (finger == 0) {
            return true;
        }
        int ahead = mine & (1 << finger) - 1;
        return ahead == 1 << finger - 1 && (others >> finger & 1) == 1;
    }

    /** Of each state the move by which it is come to first; -1 of those that are not come to, -2 of the first. */
    private static int[] forward(int start) {
        int[] from = new int[STATES];
        Arrays.fill(from, -1);
        from[start] = -2;
        ArrayDeque<Integer> queue = new ArrayDeque<>();
        queue.add(start);
        while (!queue.isEmpty()) {
            int pair = queue.poll();
            for (int move = 0; move < 10 && !isOut(pair); move++) {
                int to = pair ^ 1 << move;
                if (can(pair, move) && from[to] == -1) {
                    from[to] = move;
                    queue.add(to);
                }
            }
        }
        return from;
    }

    /** By rounds, until no round makes any state nearer. */
    private static int[] distances() {
        int[] far = new int[STATES];
        Arrays.fill(far, 99999);
        boolean changed = true;
        while (changed) {
            changed = false;
            for (int pair = 0; pair < STATES; pair++) {
                int best = isOut(pair) ? 0 : far[pair];
                for (int move = 0; move < 10; move++) {
                    best = can(pair, move) ? Math.min(best, far[pair ^ 1 << move] + 1) : best;
                }
                changed |= best < far[pair];
                far[pair] = best;
            }
        }
        return far;
    }

    /** A parish in which these two are knotted, in this state of their fingers: the lesser one's are bits 0 to 4. */
    private static ShutFists at(int[] from, int pair, int one, int other) {
        ShutFists x = Kit.parish("child a;child b;child c;child d;child e;child f;knot " + one + " " + other);
        ArrayDeque<Integer> moves = new ArrayDeque<>();
        for (int state = pair; from[state] >= 0; state ^= 1 << from[state]) {
            moves.push(from[state]);
        }
        for (int move : moves) {
            x.move(move < 5 ? Math.min(one, other) : Math.max(one, other), move % 5);
        }
        return x;
    }

    private static void cutByItself(int one, int other) {
        ShutFists x = Kit.parish("child a;child b;child c;child d;knot " + one + " " + other);
        for (int left = 21; left > 0; left--) {
            Kit.due("moves", x.moves(one), left);
            Kit.due("of both", x.moves(other), left);
            int move = x.first(one);
            x.move(move < 5 ? Math.min(one, other) : Math.max(one, other), move % 5);
        }
        Kit.due("no knot", x.knotted(), 0);
        Kit.due("one is opened", Integer.bitCount(x.open()), 1);
        Kit.due("moves", x.moves(one), -1);
        Kit.due("first", x.first(other), -1);
        Kit.due("can", x.can(other), 0);
    }

    private static void theOtherOneIsFree() {
        ShutFists x = Kit.parish("child a;child b;knot 0 1");
        x.cut(1);
        for (int f = 4; f >= 0; f--) {
            x.move(0, f);
        }
        Kit.due("opened", x.open(), 1);
        Kit.due("the other one is shut", x.child(1, 2), 31);
        Kit.text(x, "child c").parish();
        Kit.wrongParish(x, "knot 0 2", 7);
        Kit.text(x, "knot 1 2").parish();
        Kit.due("knotted anew", x.moves(2), 21);
    }
}
