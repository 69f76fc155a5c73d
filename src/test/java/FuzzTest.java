import java.util.ArrayList;
import java.util.List;
import java.util.NoSuchElementException;
import java.util.Random;

/**
 * Any calls with any numbers: what is thrown is what the face names, a call that throws changes nothing,
 * undoing brings all back. No object takes more than 512 calls, as nothing is promised behind those.
 */
public final class FuzzTest {
    private static final int CALLS = 46;
    private static final int MOST_CALLS = 260;
    private static final String[] WORDS = {"thing", "child", "knot", "empty", "month", "age", "grip", "wish", "meant", "size",
        "warm", "worth", "none", "loosen", "lead", "if", "or", "and", "not", "knotted", "wished", "nothing", "shut", "a", "b",
        "h", "i", ";", ";", "(", ")", "<", ">", "+", "0", "1", "2", "5", "9", "10", "99", "100", "101", "999", "1000", "x", "="};
    private static final String[] PARISHES = {"child a grip 0", "child b wish a", "child none", "child c age 40 grip 1 wish c",
        "knot 0 1", "knot 1 2", "thing a meant 4 size 2 warm 3 worth 60", "thing c meant 0 size 9 warm 9 worth 99", "empty 4",
        "month 30"};
    private static final String[] LAWS = {"loosen 50", "loosen 30 if age > 3", "grip 20 if shut < 3 and not wished",
        "lead 40 if (nothing or wished) and month > 2", "lead 100 if size + warm > 4", "loosen 100 if not (child < 2)"};
    private static final int[] USERS_UP = {8, 9, 16, 17, 18, 28, 29};

    /** One call, and the bytes that are put on the tape ahead of it (none: the tape is left as it is). */
    private record Step(int[] tape, int call, int a, int b, boolean flag) {
        int calls() {
            return 3 + (tape == null ? 0 : 2 + (tape.length + 19) / 20);
        }

        boolean changes() {
            return call < 10 || call == 37 || call == 38 || call == 39 || call == 44;
        }

        /** How many bytes the tape has behind this call. */
        int tapeBehind(int before, int answer) {
            if (call == 10 && answer > 0) {
                return answer;
            }
            return usesTheTapeUp() ? 0 : call == 43 && answer == 1 ? a : before;
        }

        boolean usesTheTapeUp() {
            for (int user : USERS_UP) {
                if (call == user) {
                    return true;
                }
            }
            return false;
        }

        /** What a call that is refused does. */
        void onlyTapeOf(ShutFists x) {
            if (usesTheTapeUp()) {
                x.end(0);
            } else if (tape != null) {
                Kit.tape(x, tape);
            }
        }

        long on(ShutFists x) {
            if (tape != null) {
                Kit.tape(x, tape);
            }
            return answer(x);
        }

        /** The calls 0 to 7 are acts. */
        private long answer(ShutFists x) {
            switch (call) {
                case 0: return x.months(a);
                case 1: return x.birth();
                case 2: return x.move(a, b);
                case 3: return x.blow(a);
                case 4: return x.wish(a, b);
                case 5: return x.grip(a, b);
                case 6: return x.change(a, b);
                case 7: return x.cut(a);
                case 8: return x.parish();
                case 9: return x.law();
                case 10: return x.feed(a, b, a, b, a);
                case 11: return x.thing(a, b);
                case 12: return x.child(a, b);
                case 13: return x.moves(a);
                case 14: return x.first(a);
                case 15: return x.can(a);
                case 16: return x.feels(a);
                case 17: return x.odds(a);
                case 18: return x.ask();
                case 19: return x.waits(a);
                case 20: return x.next();
                case 21: return x.keep(a);
                case 22: return x.fates(a);
                case 23: return x.last();
                case 24: return x.gives(a);
                case 25: return x.trade(a);
                case 26: return x.ring(a);
                case 27: return x.swap(a, b) ? 1 : 0;
                case 28: return x.rules(flag);
                case 29: return x.tell();
                case 30: return x.rests(a);
                case 31: return x.nothing(a);
                case 32: return x.ahead(a, b);
                case 33: return x.trial(a, flag);
                case 34: return x.span(a, flag);
                case 35: return x.led(a, flag);
                case 36: return x.log(a, b);
                case 37: return x.undo() ? 1 : 0;
                case 38: x.image(); return 0;
                case 39: return x.back() ? 1 : 0;
                case 40: return x.count(a);
                case 41: return x.all() + x.missing() * 256L + x.nobody() * 65536L;
                case 42: return x.shut() + x.open() * 256L + x.knotted() * 65536L;
                case 43: return x.end(a) ? 1 : 0;
                case 44: return x.seed(a);
                default: return x.content() + x.richest() * 256L + x.oldest() * 65536L;
            }
        }
    }

    private final Random random;

    private FuzzTest(long seed) {
        random = new Random(seed);
    }

    public static void main(String[] args) {
        for (int seed = 0; seed < 1000; seed++) {
            new FuzzTest(seed).wild();
            new FuzzTest(seed).undone();
            new FuzzTest(seed).asked();
        }
        Kit.close("FuzzTest");
    }

    /** One object takes all calls, its twin just those that are not refused to the first: both are alike then. */
    private void wild() {
        ShutFists x = new ShutFists();
        ShutFists twin = new ShutFists();
        int tape = 0;
        int fault = -1;
        int calls = 0;
        for (Step step = step(random.nextInt(CALLS)); calls + step.calls() < MOST_CALLS; step = step(random.nextInt(CALLS))) {
            calls += step.calls();
            tape = step.tape() == null ? tape : step.tape().length;
            boolean wrong = false;
            try {
                long answer = step.on(x);
                Kit.due("call " + step.call(), step.on(twin), answer);
                tape = step.tapeBehind(tape, (int) answer);
            } catch (RuntimeException e) {
                Kit.due("call " + step.call() + " threw " + e, isPlain(e), true);
                wrong = e instanceof IllegalArgumentException;
                tape = step.usesTheTapeUp() ? 0 : tape;
                step.onlyTapeOf(twin);
            }
            if (step.call() == 8 || step.call() == 9) {
                Kit.due("a fault just of a wrong text", x.fault() >= 0, wrong);
                fault = x.fault();
            }
        }
        Kit.same("a call that throws changes nothing", Kit.seen(x), Kit.seen(twin));
        Kit.tapeHas("the tape", x, tape);
        Kit.due("the fault", x.fault(), fault);
        Kit.due("undo", twin.undo(), x.undo());
        checkState(x);
    }

    /** What the machine throws is of a class below these. */
    private static boolean isPlain(RuntimeException e) {
        return e.getClass() == IndexOutOfBoundsException.class || e.getClass() == NoSuchElementException.class
                || e.getClass() == IllegalArgumentException.class || e.getClass() == IllegalStateException.class
                || e.getClass() == UnsupportedOperationException.class;
    }

    /** What was asked before does not count: a twin that was asked nothing answers all alike. */
    private void asked() {
        ShutFists x = new ShutFists();
        ShutFists twin = new ShutFists();
        int calls = 0;
        for (int i = 0; calls < MOST_CALLS; i++) {
            Step step = i < 2 ? new Step(bytes(i == 0 ? text(PARISHES, 8) : text(LAWS, 5)), 8 + i, 0, 0, false) : anyStep();
            calls += step.calls();
            long answer = answerOrKind(step, x);
            if (step.changes()) {
                Kit.due("call " + step.call(), answerOrKind(step, twin), answer);
            }
        }
        for (int call = 11; call < CALLS; call++) {
            Step step = new Step(tapeFor(call), call, random.nextInt(5), random.nextInt(5), random.nextBoolean());
            Kit.due("asked at the end " + call, answerOrKind(step, x), answerOrKind(step, twin));
        }
    }

    /** Half of these are acts, so that there is something to be asked. */
    private Step anyStep() {
        Step step = step(random.nextBoolean() ? random.nextInt(8) : random.nextInt(CALLS));
        // A text must not be what a question left on the tape.
        return step.call() == 8 || step.call() == 9 ? new Step(someTape(), step.call(), 0, 0, false) : step;
    }

    private int[] tapeFor(int call) {
        boolean rows = call == 16 || call == 17 || call == 18 || call == 28 || call == 29;
        return rows && random.nextBoolean() ? new int[] {random.nextInt(3), random.nextInt(11)} : new int[0];
    }

    private static long answerOrKind(Step step, ShutFists x) {
        try {
            return step.on(x);
        } catch (RuntimeException e) {
            Kit.due("call " + step.call() + " threw " + e, isPlain(e), true);
            return Integer.MIN_VALUE - (long) e.getClass().getSimpleName().length();
        }
    }

    private void undone() {
        List<Step> texts = List.of(new Step(bytes(text(PARISHES, 8)), 8, 0, 0, false), new Step(bytes(text(LAWS, 5)), 9, 0, 0, false));
        List<Step> acts = new ArrayList<>();
        ShutFists x = told(texts, acts);
        for (int i = 0; i < 40; i++) {
            Step act = step(random.nextInt(8));
            int before = x.count(9);
            if (taken(x, act)) {
                acts.add(act);
                Kit.due("an act", x.count(9), Math.min(before + 1, 12));
            } else {
                Kit.due("no act", x.count(9), before);
            }
        }
        int undone = random.nextInt(Math.min(acts.size(), 12) + 1);
        for (int i = 0; i < undone; i++) {
            Kit.due("undo", x.undo(), true);
        }
        ShutFists y = told(texts, acts.subList(0, acts.size() - undone));
        Kit.same("undone", Kit.seenButActs(x), Kit.seenButActs(y));
        Kit.due("acts left", x.count(9), Math.min(acts.size(), 12) - undone);
    }

    private static ShutFists told(List<Step> texts, List<Step> acts) {
        ShutFists x = new ShutFists();
        for (Step text : texts) {
            taken(x, text);
        }
        for (Step act : acts) {
            act.on(x);
        }
        return x;
    }

    private static boolean taken(ShutFists x, Step step) {
        try {
            step.on(x);
            return true;
        } catch (IndexOutOfBoundsException | IllegalArgumentException | IllegalStateException e) {
            return false;
        }
    }

    private Step step(int call) {
        boolean act = call < 8;
        return new Step(act || random.nextInt(4) > 0 ? null : someTape(), call, number(), number(), random.nextBoolean());
    }

    private static int[] bytes(String text) {
        return text.chars().toArray();
    }

    private String text(String[] lines, int most) {
        StringBuilder text = new StringBuilder();
        for (int i = random.nextInt(most); i >= 0; i--) {
            text.append(text.length() == 0 ? "" : ";").append(lines[random.nextInt(lines.length)]);
        }
        return text.toString();
    }

    private int[] someTape() {
        int kind = random.nextInt(5);
        if (kind == 0) {
            StringBuilder text = new StringBuilder();
            for (int i = random.nextInt(20); i >= 0; i--) {
                text.append(WORDS[random.nextInt(WORDS.length)]).append(random.nextBoolean() ? " " : "");
            }
            return bytes(text.toString());
        }
        if (kind < 3) {
            return bytes(kind == 1 ? text(PARISHES, 6) : text(LAWS, 6));
        }
        int[] bytes = new int[random.nextInt(44)];
        for (int i = 0; i < bytes.length; i++) {
            bytes[i] = kind == 3 ? random.nextInt(i % 2 == 0 ? 3 : 11) : random.nextInt(256);
        }
        return bytes;
    }

    private int number() {
        int kind = random.nextInt(12);
        if (kind == 0) {
            return random.nextInt();
        }
        if (kind == 1) {
            return random.nextBoolean() ? Integer.MIN_VALUE : Integer.MAX_VALUE;
        }
        return kind < 4 ? random.nextInt(130) - 4 : random.nextInt(10) - 1;
    }

    private static void checkState(ShutFists x) {
        int children = x.count(0);
        int opened = 0;
        for (int c = 0; c < children; c++) {
            boolean open = x.child(c, 7) == 1;
            opened += open ? 1 : 0;
            Kit.due("opened with all fingers open", open, x.child(c, 2) == 0);
            int other = x.child(c, 8);
            Kit.due("a knot is of two", other == -1 || !open && x.child(other, 8) == c, true);
            Kit.due("shut ones keep nothing", open || x.child(c, 5) == -1, true);
        }
        Kit.due("rows of the log", x.count(8), opened);
    }
}
