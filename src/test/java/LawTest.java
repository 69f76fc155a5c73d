import java.util.ArrayList;
import java.util.List;
import java.util.Random;

/** Promises 5 and 6: laws made by chance, each worked out while it is made, and told wrong at a place that is known. */
public final class LawTest {
    private static final String[] PARTS = {"child", "age", "grip", "size", "warm", "worth", "shut", "month"};

    private final Random random;
    private final int[] values;
    private final boolean knotted;
    private final boolean wished;
    private final boolean nothing;
    private final List<String> words = new ArrayList<>();

    private LawTest(Random random, int[] values, boolean knotted, boolean wished, boolean nothing) {
        this.random = random;
        this.values = values;
        this.knotted = knotted;
        this.wished = wished;
        this.nothing = nothing;
    }

    public static void main(String[] args) {
        Random random = new Random(11);
        for (int run = 0; run < 400; run++) {
            ShutFists x = Kit.parish("thing b meant 1 size 3 warm 4 worth 50;child a age 7 grip 1;child b age 2 grip 0 wish b;"
                    + "child none age 3 grip 0;child a;knot 3 0;month 6");
            x.move(1, 2);
            int c = random.nextInt(4);
            int[] values = {c, x.child(c, 0), x.child(c, 3), c == 1 ? 3 : 0, c == 1 ? 4 : 0, c == 1 ? 50 : 0, c == 1 ? 4 : 5, 6};
            new LawTest(random, values, c == 0 || c == 3, c == 1, c == 2).check(x, c);
        }
        Kit.close("LawTest");
    }

    private void check(ShutFists x, int child) {
        boolean holds = condition(0);
        StringBuilder text = new StringBuilder("lead 60 if ");
        List<Integer> starts = new ArrayList<>();
        for (String word : words) {
            boolean apart = text.toString().matches(".*[a-z0-9]") && Character.isLetterOrDigit(word.charAt(0));
            text.append(apart || random.nextInt(3) == 0 ? " " : "");
            starts.add(text.length());
            text.append(word);
        }
        if (text.length() > 380) {
            return;
        }
        Kit.due("lines of " + text, Kit.text(x, text.toString()).law(), 1);
        int worth = values[5];
        Kit.due(text.toString(), x.child(child, 10), worth + (holds ? 60 : 0));
        Kit.law(x, text + ";lead 3");
        Kit.due(text + ";lead 3", x.child(child, 10), worth + (holds ? 63 : 3));
        int start = starts.get(random.nextInt(starts.size()));
        Kit.wrongLaw(x, text.substring(0, start) + "?" + text.substring(start), start);
        Kit.wrongLaw(x, text + " ) ;lead 3", text.length() + 1);
        Kit.wrongLaw(x, "lead 60 if (" + text.substring(11) + " ;lead 3", text.length() + 2);
    }

    private boolean condition(int depth) {
        boolean holds = all(depth);
        while (random.nextInt(3) == 0) {
            words.add("or");
            holds |= all(depth);
        }
        return holds;
    }

    private boolean all(int depth) {
        boolean holds = atom(depth);
        while (random.nextInt(3) == 0) {
            words.add("and");
            holds &= atom(depth);
        }
        return holds;
    }

    /** At most 5 deep, so that all may be put one deeper. */
    private boolean atom(int depth) {
        int kind = random.nextInt(depth < 5 ? 9 : 5);
        if (kind == 5 || kind == 6) {
            words.add("not");
            return !atom(depth + 1);
        }
        if (kind > 6) {
            words.add("(");
            boolean holds = condition(depth + 1);
            words.add(")");
            return holds;
        }
        if (kind < 3) {
            words.add(kind == 0 ? "knotted" : kind == 1 ? "wished" : "nothing");
            return kind == 0 ? knotted : kind == 1 ? wished : nothing;
        }
        int left = sum();
        words.add(kind == 3 ? "<" : ">");
        int right = sum();
        return kind == 3 ? left < right : left > right;
    }

    private int sum() {
        int sum = part();
        while (random.nextInt(3) == 0) {
            words.add("+");
            sum += part();
        }
        return sum;
    }

    private int part() {
        int kind = random.nextInt(12);
        if (kind < PARTS.length) {
            words.add(PARTS[kind]);
            return values[kind];
        }
        int number = random.nextInt(random.nextBoolean() ? 10 : 1000);
        words.add("" + number);
        return number;
    }
}
