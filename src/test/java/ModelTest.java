import java.util.ArrayList;
import java.util.Arrays;
import java.util.List;
import java.util.Random;
import java.util.function.IntSupplier;

/**
 * All promises, by a second parish that is written after the document's words, in the plainest way and by force:
 * whatever is called by chance, both answer or throw the same.
 */
public final class ModelTest {
    private static final int RUNS = 600;
    private static final int MOST_CALLS = 500;
    private static final int ALL_ACTS = 16;
    private static final int ALL_QUESTIONS = 41;

    // What is called the most in a market, in knots, in months, in any parish, in texts; below 0: by the tape.
    private static final int[][] ACTS = {{8, 9, 10, 12, 13}, {5, 6, 7, 14}, {0, 1, 3, 11, 14}, {0, 2, 3, 4, 9, 11, 15}, {15, 14, 2}};
    private static final int[][] QUESTIONS = {{16, 17, 18, 19, 20, 21, 22, 23, 31, 32, 34}, {1, 4, 5, 6, 30, 38},
        {1, 11, 12, 13, 14, 15, 35, 36, 37, 33, 38, 40}, {-1, 7, 8, 9, 10, 24, 25, 26, 27}, {1, 2, 3, 39}};

    /** A call of the face on either of both. */
    private interface Call<T> {
        int on(T x);
    }

    private record Both(String name, Call<ShutFists> real, Call<Model> model) {
    }

    private final Random random;
    private final ShutFists x = new ShutFists();
    private final Model m = new Model();
    private final StringBuilder told = new StringBuilder();
    private int calls = 0;

    private ModelTest(long seed) {
        random = new Random(seed);
    }

    public static void main(String[] args) {
        int runs = args.length > 0 ? Integer.parseInt(args[0]) : RUNS;
        for (int seed = 0; seed < runs; seed++) {
            new ModelTest(seed).run(seed);
        }
        Kit.close("ModelTest");
    }

    private void run(int kind) {
        switch (kind % 5) {
            case 0: market(); break;
            case 1: knots(); break;
            case 2: months(); break;
            default: begin();
        }
        boolean reads = kind % 5 == 4;
        int[] acts = ACTS[kind % 5];
        int[] questions = QUESTIONS[kind % 5];
        while (calls < MOST_CALLS - 2 * ALL_QUESTIONS) {
            int next = random.nextInt(100);
            if (next < (reads ? 50 : 2)) {
                anyText();
            } else if (next < 60) {
                same(act(random.nextInt(4) > 0 ? acts[random.nextInt(acts.length)] : random.nextInt(ALL_ACTS)));
            } else {
                int question = random.nextInt(4) > 0 ? questions[random.nextInt(questions.length)] : random.nextInt(ALL_QUESTIONS);
                if (question < 0 || random.nextInt(12) == 0) {
                    rows();
                }
                same(question(Math.max(question, 0)));
            }
        }
        for (int question = 0; question < ALL_QUESTIONS; question++) {
            same(question(question));
        }
    }

    /** Any texts. */
    private void begin() {
        for (int i = random.nextInt(6); i > 0; i--) {
            anyText();
        }
    }

    /** Now and then a text of the one kind is read as one of the other. */
    private void anyText() {
        boolean law = random.nextInt(3) == 0;
        text(law ? lawText() : parishText(), law ^ random.nextInt(40) == 0);
    }

    /** All have opened and wish for something. */
    private void market() {
        List<String> lines = new ArrayList<>();
        for (int t = 0; t < 4; t++) {
            lines.add("thing " + "abcd".charAt(t) + " meant 1 size 0 warm 0 worth " + 10 * random.nextInt(5));
        }
        for (int c = random.nextInt(3); c < 8; c++) {
            lines.add("child " + "abcd".charAt(random.nextInt(4)) + " grip 0 wish " + "abcd".charAt(random.nextInt(4)));
        }
        text(String.join(";", lines), false);
        text("loosen 90", true);
        same(new Both("months(6)", a -> a.months(6), a -> a.months(6)));
    }

    /** Many hold one another. */
    private void knots() {
        text("child a wish a;child b grip 1;child c;child d age 4;child e;child none grip 0;knot 0 3;knot 2 1;knot 5 4", false);
        text("lead 7 if knotted;lead 30 if wished or shut > 2;loosen 20;grip 3 if not knotted", true);
    }

    /** Fists that open sooner or later. */
    private void months() {
        StringBuilder text = new StringBuilder("thing a meant 3 size 4 warm 5 worth 60;month " + random.nextInt(30));
        for (int c = 0; c < 6; c++) {
            text.append(";child ").append(random.nextInt(3) == 0 ? "none" : "a");
            text.append(" age ").append(random.nextInt(40)).append(" grip ").append(random.nextInt(4));
        }
        text(text.toString(), false);
        text("loosen " + (20 + random.nextInt(60)) + ";loosen " + random.nextInt(60) + " if age > " + random.nextInt(70)
                + ";grip " + random.nextInt(40) + " if shut < " + random.nextInt(6) + " and not nothing;lead "
                + random.nextInt(100) + " if month + age > " + random.nextInt(150), true);
    }

    private void same(Both both) {
        calls++;
        String got = answer(() -> both.real.on(x));
        String want = answer(() -> both.model.on(m));
        told.append(both.name).append(" -> ").append(want).append('\n');
        Kit.same(both.name + (got.equals(want) ? "" : " behind\n" + told), got, want);
    }

    private static String answer(IntSupplier call) {
        try {
            return "" + call.getAsInt();
        } catch (RuntimeException e) {
            return e.getClass().getSimpleName();
        }
    }

    private void feed(int[] bytes) {
        for (int i = 0; i < bytes.length; i += 20) {
            int[] n = new int[5];
            for (int j = 0; j < 20; j++) {
                n[j / 4] = n[j / 4] << 8 | (i + j < bytes.length ? bytes[i + j] : 0);
            }
            same(new Both("feed" + Arrays.toString(n), a -> a.feed(n[0], n[1], n[2], n[3], n[4]), a -> a.feed(n)));
        }
    }

    private void tape(int[] bytes) {
        if (random.nextInt(20) > 0) {
            same(new Both("end(0)", a -> a.end(0) ? 1 : 0, a -> a.end(0)));
        }
        feed(bytes);
        int end = random.nextInt(30) > 0 ? bytes.length : random.nextInt(450) - 20;
        same(new Both("end(" + end + ")", a -> a.end(end) ? 1 : 0, a -> a.end(end)));
    }

    private void text(String text, boolean law) {
        told.append("'").append(text).append("'\n");
        tape(text.chars().toArray());
        same(law ? new Both("law()", ShutFists::law, Model::law) : new Both("parish()", ShutFists::parish, Model::parish));
        same(new Both("fault()", ShutFists::fault, a -> a.fault));
    }

    private void rows() {
        boolean feels = random.nextBoolean();
        int[] bytes = new int[random.nextInt(6) == 0 ? random.nextInt(44) : 2 * random.nextInt(3)];
        int thing = random.nextInt(8);
        int factor = random.nextInt(10);
        int more = random.nextInt(100);
        for (int i = 0; i < bytes.length; i++) {
            boolean wild = random.nextInt(40) == 0;
            if (i % 2 == 0) {
                bytes[i] = random.nextInt(wild ? 256 : feels ? 3 : 8);
            } else if (feels) {
                bytes[i] = wild ? random.nextInt(13) : m.felt(Math.min(2, bytes[i - 1]), thing) + random.nextInt(2);
            } else {
                bytes[i] = wild ? random.nextInt(256) : (m.w.worth[bytes[i - 1] % 8] * factor + more) & 255;
            }
        }
        tape(bytes);
    }

    /** Mostly a number that there is. */
    private int number(int from, int to) {
        return random.nextInt(25) == 0 ? from - 3 + random.nextInt(to - from + 7) : from + random.nextInt(to - from + 1);
    }

    private int someChild() {
        return number(0, Math.max(0, m.w.children.size() - 1));
    }

    private Both act(int kind) {
        int c = someChild();
        int o = someChild();
        int f = number(0, 4);
        switch (kind) {
            case 0: case 1: {
                int n = random.nextInt(4) == 0 ? number(1, 120) : number(1, 4);
                return new Both("months(" + n + ")", a -> a.months(n), a -> a.months(n));
            }
            case 2: return new Both("birth()", ShutFists::birth, Model::birth);
            case 3: case 4: case 5: case 6:
                return new Both("move(" + c + ", " + f + ")", a -> a.move(c, f), a -> a.move(c, f));
            case 7: {
                int first = m.w.children.isEmpty() || c < 0 || c >= m.w.children.size() ? -1 : m.first(c);
                if (first < 0) {
                    return new Both("blow(" + c + ")", a -> a.blow(c), a -> a.blow(c));
                }
                int other = m.w.children.get(c).knot;
                int mover = first < 5 ? Math.min(c, other) : Math.max(c, other);
                return new Both("move(" + mover + ", " + first % 5 + ")", a -> a.move(mover, first % 5), a -> a.move(mover, first % 5));
            }
            case 8: return new Both("blow(" + c + ")", a -> a.blow(c), a -> a.blow(c));
            case 9: case 10: {
                int t = random.nextInt(3) > 0 ? number(-1, 2) : number(-1, 7);
                return new Both("wish(" + c + ", " + t + ")", a -> a.wish(c, t), a -> a.wish(c, t));
            }
            case 11: {
                int n = number(0, random.nextBoolean() ? 2 : 9);
                return new Both("grip(" + c + ", " + n + ")", a -> a.grip(c, n), a -> a.grip(c, n));
            }
            case 12: return new Both("change(" + c + ", " + o + ")", a -> a.change(c, o), a -> a.change(c, o));
            case 13:
                if (random.nextInt(4) > 0) {
                    return new Both("change(" + c + ", " + o + ")", a -> a.change(c, o), a -> a.change(c, o));
                }
                return new Both("cut(" + c + ")", a -> a.cut(c), a -> a.cut(c));
            case 14: return new Both("undo()", a -> a.undo() ? 1 : 0, Model::undo);
            default:
                switch (random.nextInt(4)) {
                    case 0: return new Both("image()", a -> {
                        a.image();
                        return 0;
                    }, Model::image);
                    case 1: return new Both("back()", a -> a.back() ? 1 : 0, Model::back);
                    default:
                        int seed = random.nextInt();
                        return new Both("seed(" + seed + ")", a -> a.seed(seed), a -> a.seed(seed));
                }
        }
    }

    private Both question(int kind) {
        int c = someChild();
        int o = someChild();
        int t = number(0, 7);
        int n = random.nextInt(3) == 0 ? number(0, 100) : number(0, 12);
        boolean flag = random.nextBoolean();
        int what = number(0, 11);
        switch (kind) {
            case 0: case 1: return new Both("child(" + c + ", " + what + ")", a -> a.child(c, what), a -> a.child(c, what));
            case 2: return new Both("thing(" + t + ", " + what % 5 + ")", a -> a.thing(t, what % 5), a -> a.thing(t, what % 5));
            case 3: return new Both("count(" + what + ")", a -> a.count(what), a -> a.count(what));
            case 4: return new Both("moves(" + c + ")", a -> a.moves(c), a -> a.moves(c));
            case 5: return new Both("first(" + c + ")", a -> a.first(c), a -> a.first(c));
            case 6: return new Both("can(" + c + ")", a -> a.can(c), a -> a.can(c));
            case 7: return new Both("feels(" + what % 3 + ")", a -> a.feels(what % 3), a -> a.feels(what % 3));
            case 8: return new Both("feels(" + what + ")", a -> a.feels(what), a -> a.feels(what));
            case 9: return new Both("odds(" + t + ")", a -> a.odds(t), a -> a.odds(t));
            case 10: return new Both("ask()", ShutFists::ask, Model::ask);
            case 11: return new Both("waits(" + c + ")", a -> a.waits(c), a -> a.waits(c));
            case 12: return new Both("next()", ShutFists::next, Model::next);
            case 13: return new Both("keep(" + n + ")", a -> a.keep(n), a -> a.keep(n));
            case 14: return new Both("fates(" + n + ")", a -> a.fates(n), a -> a.fates(n));
            case 15: return new Both("last()", ShutFists::last, Model::last);
            case 16: return new Both("gives(-1)", a -> a.gives(-1), a -> a.gives(-1));
            case 17: return new Both("gives(" + c + ")", a -> a.gives(c), a -> a.gives(c));
            case 18: return new Both("trade(" + c + ")", a -> a.trade(c), a -> a.trade(c));
            case 19: return new Both("ring(" + c + ")", a -> a.ring(c), a -> a.ring(c));
            case 20: return new Both("swap(" + c + ", " + o + ")", a -> a.swap(c, o) ? 1 : 0, a -> a.swap(c, o));
            case 21: return new Both("all()", ShutFists::all, Model::all);
            case 22: return new Both("missing()", ShutFists::missing, Model::missing);
            case 23: return new Both("nobody()", ShutFists::nobody, Model::nobody);
            case 24: return new Both("rules(" + flag + ")", a -> a.rules(flag), a -> a.rules(flag));
            case 25: return new Both("tell()", ShutFists::tell, Model::tell);
            case 26: return new Both("rests(" + c + ")", a -> a.rests(c), a -> a.rests(c));
            case 27: return new Both("nothing(" + n % 6 + ")", a -> a.nothing(n % 6), a -> a.nothing(n % 6));
            case 28: return new Both("shut()", ShutFists::shut, a -> a.w.set(k -> k.bits() == 31));
            case 29: return new Both("open()", ShutFists::open, a -> a.w.set(k -> k.opened));
            case 30: return new Both("knotted()", ShutFists::knotted, a -> a.w.set(k -> k.knot >= 0));
            case 31: return new Both("content()", ShutFists::content, a -> a.w.set(k -> k.keeps >= 0 && k.keeps == k.wish));
            case 32: return new Both("richest()", ShutFists::richest, Model::richest);
            case 33: return new Both("oldest()", ShutFists::oldest, Model::oldest);
            case 34: return new Both("twins()", ShutFists::twins, Model::twins);
            case 35: return new Both("ahead(" + c + ", " + n + ")", a -> a.ahead(c, n), a -> a.ahead(c, n));
            case 36: return new Both("trial(" + n + ", " + flag + ")", a -> a.trial(n, flag), a -> a.trial(n, flag));
            case 37: return new Both("span(" + n + ", " + flag + ")", a -> a.span(n, flag), a -> a.span(n, flag));
            case 38: return new Both("led(" + c + ", " + flag + ")", a -> a.led(c, flag), a -> a.led(c, flag));
            case 39: return new Both("fault()", ShutFists::fault, a -> a.fault);
            default: return new Both("log(" + n + ", " + what % 6 + ")", a -> a.log(n, what % 6), a -> a.log(n, what % 6));
        }
    }

    private String parishText() {
        List<String> words = new ArrayList<>();
        int lines = random.nextInt(12) == 0 ? random.nextInt(17) : random.nextInt(8);
        int children = m.w.children.size();
        for (int i = 0; i < lines; i++) {
            if (i > 0) {
                words.add(";");
            }
            switch (random.nextInt(8)) {
                case 0: case 1:
                    words.addAll(List.of("thing", letter(), "meant", "" + number(0, 9), "size", "" + number(0, 9), "warm",
                            "" + number(0, 9), "worth", "" + (random.nextBoolean() ? number(0, 99) : 10 * number(0, 4))));
                    break;
                case 2: case 3: case 4: case 5:
                    words.addAll(List.of("child", random.nextInt(5) == 0 ? "none" : letter()));
                    children++;
                    if (random.nextInt(3) == 0) {
                        words.addAll(List.of("age", "" + number(0, random.nextInt(3) == 0 ? 999 : 20)));
                    }
                    if (random.nextBoolean()) {
                        words.addAll(List.of("grip", "" + number(0, 2)));
                    }
                    if (random.nextBoolean()) {
                        words.addAll(List.of("wish", letter()));
                    }
                    break;
                case 6:
                    words.addAll(List.of("knot", "" + random.nextInt(children + 1), "" + random.nextInt(children + 1)));
                    break;
                default:
                    boolean month = random.nextBoolean();
                    words.addAll(List.of(month ? "month" : "empty", "" + number(0, month ? 999 : 9)));
            }
        }
        return joined(words);
    }

    private String letter() {
        return "" + (char) ('a' + (random.nextInt(60) == 0 ? random.nextInt(12) : random.nextInt(random.nextBoolean() ? 3 : 8)));
    }

    private String lawText() {
        List<String> words = new ArrayList<>();
        int lines = random.nextInt(6) == 0 ? random.nextInt(15) : random.nextInt(6);
        for (int i = 0; i < lines; i++) {
            if (i > 0) {
                words.add(";");
            }
            int kind = random.nextInt(5);
            words.addAll(List.of(kind < 2 ? "loosen" : kind < 3 ? "grip" : "lead", "" + number(0, 100)));
            if (random.nextInt(3) > 0) {
                words.add("if");
                condition(words, 0);
            }
        }
        return joined(words);
    }

    private void condition(List<String> words, int deep) {
        atom(words, deep);
        while (random.nextInt(4) == 0) {
            words.add(random.nextBoolean() ? "and" : "or");
            atom(words, deep);
        }
    }

    private void atom(List<String> words, int deep) {
        int kind = random.nextInt(deep < 8 ? 9 : 6);
        if (kind < 2) {
            words.add(List.of("knotted", "wished", "nothing").get(random.nextInt(3)));
        } else if (kind < 6) {
            sum(words);
            words.add(kind < 4 ? "<" : ">");
            sum(words);
        } else if (kind == 6) {
            words.add("not");
            atom(words, deep + 1);
        } else {
            words.add("(");
            condition(words, deep + 1);
            words.add(")");
        }
    }

    private void sum(List<String> words) {
        List<String> parts = List.of("child", "age", "grip", "size", "warm", "worth", "shut", "month", "2", "5", "30", "999");
        words.add(parts.get(random.nextInt(parts.size())));
        while (random.nextInt(4) == 0) {
            words.add("+");
            words.add(parts.get(random.nextInt(parts.size())));
        }
    }

    /** One in four texts is made wrong by chance, at one place or two. */
    private String joined(List<String> words) {
        List<String> wild = List.of(";", "(", ")", "not", "and", "or", "if", "1000", "00", "000", "0000", "12 3", "+", "<", ">",
                "thing", "child", "none", "a", "i", "aa", "A", "\0", "\u00ff", "age", "grip", "wish", "month", "lead", "x");
        for (int i = 0; i < 2 && !words.isEmpty() && random.nextInt(4) == 0; i++) {
            int at = random.nextInt(words.size());
            switch (random.nextInt(3)) {
                case 0: words.remove(at); break;
                case 1: words.add(at, wild.get(random.nextInt(wild.size()))); break;
                default: words.set(at, wild.get(random.nextInt(wild.size())));
            }
        }
        StringBuilder text = new StringBuilder();
        for (String word : words) {
            boolean apart = text.length() > 0 && kindOf(text.charAt(text.length() - 1)) == kindOf(word.charAt(0))
                    && kindOf(word.charAt(0)) > 0;
            text.append(apart && random.nextInt(200) > 0 || random.nextInt(8) == 0 ? " ".repeat(1 + random.nextInt(2)) : "");
            text.append(word);
        }
        text.append(random.nextInt(8) == 0 ? "  " : "");
        return text.length() > 400 ? text.substring(0, 400) : text.toString();
    }

    private static int kindOf(char sign) {
        return sign >= 'a' && sign <= 'z' ? 1 : sign >= '0' && sign <= '9' ? 2 : 0;
    }
}
