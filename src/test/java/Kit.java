import java.util.function.IntSupplier;
import java.util.function.Supplier;
import java.util.function.ToIntFunction;

/** What all tests use: tapes and texts for an object, and checks that are counted. */
final class Kit {
    private static int checks = 0;
    private static int wrong = 0;

    private Kit() {
    }

    static void due(String what, long got, long want) {
        checks++;
        if (got != want) {
            wrong++;
            System.out.println(what + " answered " + got + ", due is " + want);
        }
    }

    static void due(String what, boolean got, boolean want) {
        due(what, got ? 1 : 0, want ? 1 : 0);
    }

    static void raises(String what, Class<? extends RuntimeException> kind, IntSupplier call) {
        checks++;
        String got;
        try {
            got = "answered " + call.getAsInt();
        } catch (RuntimeException e) {
            if (e.getClass() == kind) {
                return;
            }
            got = "threw " + e;
        }
        wrong++;
        System.out.println(what + " " + got + ", due is " + kind.getSimpleName());
    }

    static void same(String what, String got, String want) {
        checks++;
        if (!got.equals(want)) {
            wrong++;
            System.out.println(what + " shows " + got + ", due is " + want);
        }
    }

    /** A call that is refused leaves an object as one that was never asked. */
    static void refused(String what, Class<? extends RuntimeException> kind, Supplier<ShutFists> maker,
            ToIntFunction<ShutFists> call) {
        ShutFists x = maker.get();
        raises(what, kind, () -> call.applyAsInt(x));
        same(what + ": nothing changes", seen(x), seen(maker.get()));
    }

    /** How many bytes the tape has: to tell it, the end is put where it is. */
    static void tapeHas(String what, ShutFists x, int n) {
        due(what + ": no more on the tape", x.end(n + 1), false);
        due(what + ": no less on the tape", x.end(n), true);
    }

    /** All that can be seen without using anything up, but for the tape and the fault: 190 calls at most. */
    static String seen(ShutFists x) {
        return x.count(9) + " acts, " + seenButActs(x);
    }

    static String seenButActs(ShutFists x) {
        StringBuilder seen = new StringBuilder();
        for (int what = 0; what < 9; what++) {
            seen.append(x.count(what)).append(' ');
        }
        for (int t = 0; t < 8; t++) {
            seen.append("| ");
            for (int what = 0; what < 5; what++) {
                seen.append(x.thing(t, what)).append(' ');
            }
        }
        int children = x.count(0);
        for (int c = 0; c < children; c++) {
            seen.append("/ ");
            for (int what = 0; what < 12; what++) {
                seen.append(x.child(c, what)).append(' ');
            }
        }
        int rows = x.count(8);
        for (int ago = 0; ago < rows; ago++) {
            seen.append("# ");
            for (int what = 0; what < 5; what++) {
                seen.append(x.log(ago, what)).append(' ');
            }
        }
        int seed = x.seed(0);
        x.seed(seed);
        return seen.append("seed ").append(seed).toString();
    }

    /** Puts just these bytes on the tape of an object. */
    static ShutFists tape(ShutFists x, int... bytes) {
        x.end(0);
        for (int i = 0; i < bytes.length; i += 20) {
            x.feed(four(bytes, i), four(bytes, i + 4), four(bytes, i + 8), four(bytes, i + 12), four(bytes, i + 16));
        }
        x.end(bytes.length);
        return x;
    }

    private static int four(int[] bytes, int from) {
        int number = 0;
        for (int i = from; i < from + 4; i++) {
            number = number << 8 | (i < bytes.length ? bytes[i] : 0);
        }
        return number;
    }

    static ShutFists text(ShutFists x, String text) {
        return tape(x, text.chars().toArray());
    }

    static ShutFists parish(String... texts) {
        ShutFists x = new ShutFists();
        for (String text : texts) {
            text(x, text).parish();
        }
        return x;
    }

    static ShutFists law(ShutFists x, String text) {
        text(x, text).law();
        return x;
    }

    static void wrongParish(ShutFists x, String text, int fault) {
        raises("parish of '" + text + "'", IllegalArgumentException.class, () -> text(x, text).parish());
        due("fault of '" + text + "'", x.fault(), fault);
    }

    static void wrongLaw(ShutFists x, String text, int fault) {
        raises("law of '" + text + "'", IllegalArgumentException.class, () -> text(x, text).law());
        due("fault of '" + text + "'", x.fault(), fault);
    }

    /** Opens a fist by hand: the thumb comes last, so that a child without a knot opens at once. */
    static void openFist(ShutFists x, int child) {
        for (int finger = 4; finger >= 0; finger--) {
            if ((x.child(child, 2) >> finger & 1) != 0) {
                x.move(child, finger);
            }
        }
    }

    static void close(String name) {
        System.out.println(name + ": " + checks + " checks, " + wrong + " wrong");
        if (wrong != 0 || checks == 0) {
            System.exit(1);
        }
    }
}
