import java.util.NoSuchElementException;
import java.util.Random;

/** Any calls with any numbers: what is thrown is what the face names, a call that throws changes nothing, undoing brings all back. */
public final class FuzzTest {
    private static final int CALLS = 46;
    private static final String[] WORDS = {"thing", "child", "knot", "empty", "month", "age", "grip", "wish", "meant", "size",
        "warm", "worth", "none", "loosen", "lead", "if", "or", "and", "not", "knotted", "wished", "nothing", "shut", "a", "b",
        "h", "i", ";", ";", "(", ")", "<", ">", "+", "0", "1", "2", "5", "9", "10", "99", "100", "101", "999", "1000", "x", "="};
    private static final String[] PARISHES = {"child a grip 0", "child b wish a", "child none", "child c age 40 grip 1 wish c",
        "knot 0 1", "knot 1 2", "thing a meant 4 size 2 warm 3 worth 60", "thing c meant 0 size 9 warm 9 worth 99", "empty 4",
        "month 30"};
    private static final String[] LAWS = {"loosen 50", "loosen 30 if age > 3", "grip 20 if shut < 3 and not wished",
        "lead 40 if (nothing or wished) and month > 2", "lead 100 if size + warm > 4", "loosen 100 if not (child < 2)"};

    private final Random random;
    private final ShutFists x = new ShutFists();

    private FuzzTest(long seed) {
        random = new Random(seed);
    }

    public static void main(String[] args) {
        for (int seed = 0; seed < 300; seed++) {
            new FuzzTest(seed).wild();
            new FuzzTest(seed).undone();
        }
        Kit.close("FuzzTest");
    }

    private void wild() {
        for (int i = 0; i < 400; i++) {
            int call = random.nextInt(CALLS);
            if (random.nextInt(4) == 0) {
                fillTape();
            }
            String before = digest();
            try {
                doCall(call);
            } catch (IndexOutOfBoundsException | NoSuchElementException | IllegalArgumentException | IllegalStateException
                    | UnsupportedOperationException e) {
                Kit.due("call " + call + " threw " + e, isPlain(e), true);
                Kit.due("call " + call + " threw and changed", before.equals(digest()), true);
            }
            checkState();
        }
    }

    /** What the machine throws is of a class below these. */
    private static boolean isPlain(RuntimeException e) {
        return e.getClass() == IndexOutOfBoundsException.class || e.getClass() == NoSuchElementException.class
                || e.getClass() == IllegalArgumentException.class || e.getClass() == IllegalStateException.class
                || e.getClass() == UnsupportedOperationException.class;
    }

    private void undone() {
        Kit.text(x, text(PARISHES, 8));
        readOrNot(true);
        Kit.text(x, text(LAWS, 5));
        readOrNot(false);
        for (int i = 0; i < 40; i++) {
            String before = digest();
            int acts = x.count(9);
            try {
                doCall(random.nextInt(8));
            } catch (IndexOutOfBoundsException | IllegalArgumentException | IllegalStateException e) {
                Kit.due("no act", x.count(9), acts);
                continue;
            }
            Kit.due("an act", x.count(9), Math.min(acts + 1, 12));
            if (random.nextInt(2) == 0) {
                x.undo();
                Kit.due("undone", noActs(before).equals(noActs(digest())), true);
            }
        }
    }

    private static String noActs(String digest) {
        return digest.substring(digest.indexOf('|'));
    }

    private String text(String[] lines, int most) {
        StringBuilder text = new StringBuilder();
        for (int i = random.nextInt(most); i >= 0; i--) {
            text.append(text.length() == 0 ? "" : ";").append(lines[random.nextInt(lines.length)]);
        }
        return text.toString();
    }

    private void readOrNot(boolean parish) {
        try {
            int unused = parish ? x.parish() : x.law();
        } catch (IllegalArgumentException e) {
            Kit.due("a fault", x.fault() >= 0, true);
        }
    }

    private void fillTape() {
        int kind = random.nextInt(6);
        if (kind == 0) {
            StringBuilder text = new StringBuilder();
            for (int i = random.nextInt(20); i >= 0; i--) {
                text.append(WORDS[random.nextInt(WORDS.length)]).append(random.nextBoolean() ? " " : "");
            }
            Kit.text(x, text.toString());
        } else if (kind == 1) {
            Kit.text(x, text(PARISHES, 6));
        } else if (kind == 2) {
            Kit.text(x, text(LAWS, 6));
        } else if (kind == 3) {
            int[] bytes = new int[random.nextInt(44)];
            for (int i = 0; i < bytes.length; i++) {
                bytes[i] = random.nextInt(i % 2 == 0 ? 3 : 11);
            }
            Kit.tape(x, bytes);
        } else if (kind == 4) {
            x.feed(random.nextInt(), random.nextInt(), random.nextInt(), random.nextInt(), random.nextInt());
        } else {
            x.end(random.nextInt(30) - 3);
        }
    }

    private int number() {
        int kind = random.nextInt(12);
        if (kind == 0) {
            return random.nextInt();
        }
        if (kind == 1) {
            return random.nextBoolean() ? Integer.MIN_VALUE : Integer.MAX_VALUE;
        }
        return kind < 4 ? random.nextInt(130) - 4 : random.nextInt(10) - 1;
    }

    /** The calls 0 to 7 are acts. */
    private int doCall(int call) {
        int a = number();
        int b = number();
        boolean flag = random.nextBoolean();
        switch (call) {
            case 0: return x.months(a);
            case 1: return random.nextInt(3) == 0 ? x.birth() : x.move(a, b);
            case 2: return x.move(a, b);
            case 3: return x.blow(a);
            case 4: return x.wish(a, b);
            case 5: return x.grip(a, b);
            case 6: return x.change(a, b);
            case 7: return random.nextInt(3) == 0 ? x.cut(a) : x.move(a, b);
            case 8: return x.parish();
            case 9: return x.law();
            case 10: return x.fault();
            case 11: return x.thing(a, b);
            case 12: return x.child(a, b);
            case 13: return x.moves(a);
            case 14: return x.first(a);
            case 15: return x.can(a);
            case 16: return x.feels(a);
            case 17: return x.odds(a);
            case 18: return x.ask();
            case 19: return x.waits(a);
            case 20: return x.next();
            case 21: return x.keep(a);
            case 22: return x.fates(a);
            case 23: return x.last();
            case 24: return x.gives(a);
            case 25: return x.trade(a);
            case 26: return x.ring(a);
            case 27: return x.swap(a, b) ? 1 : 0;
            case 28: return x.rules(flag);
            case 29: return x.tell();
            case 30: return x.rests(a);
            case 31: return x.nothing(a);
            case 32: return x.ahead(a, b);
            case 33: return x.trial(a, flag);
            case 34: return x.span(a, flag);
            case 35: return x.led(a, flag);
            case 36: return x.log(a, b);
            case 37: return x.undo() ? 1 : 0;
            case 38: x.image(); return 0;
            case 39: return x.back() ? 1 : 0;
            case 40: return x.count(a);
            case 41: return x.all() + x.missing() + x.nobody() + x.richest() + x.oldest() + x.twins();
            case 42: return x.shut() + x.open() + x.knotted() + x.content();
            case 43: return x.end(a) ? 1 : 0;
            case 44: return x.seed(a);
            default: return x.birth();
        }
    }

    /** All that can be seen without using anything up, but for the tape and the fault. */
    private String digest() {
        StringBuilder seen = new StringBuilder();
        seen.append(x.count(9)).append('|');
        for (int what = 0; what < 9; what++) {
            seen.append(x.count(what)).append(' ');
        }
        for (int t = 0; t < 8; t++) {
            for (int what = 0; what < 5; what++) {
                seen.append(x.thing(t, what)).append(' ');
            }
        }
        for (int c = 0; c < x.count(0); c++) {
            for (int what = 0; what < 12; what++) {
                seen.append(x.child(c, what)).append(' ');
            }
        }
        for (int ago = 0; ago < x.count(8); ago++) {
            for (int what = 0; what < 5; what++) {
                seen.append(x.log(ago, what)).append(' ');
            }
        }
        int seed = x.seed(0);
        x.seed(seed);
        return seen.append(seed).toString();
    }

    private void checkState() {
        for (int c = 0; c < x.count(0); c++) {
            boolean opened = x.child(c, 7) == 1;
            Kit.due("opened with all fingers open", opened, x.child(c, 2) == 0);
            int other = x.child(c, 8);
            Kit.due("a knot is of two", other == -1 || !opened && x.child(other, 8) == c, true);
            Kit.due("shut ones keep nothing", opened || x.child(c, 5) == -1, true);
        }
        Kit.due("rows of the log", x.count(8), Integer.bitCount(x.open()));
    }
}
