import java.nio.ByteBuffer;
import java.util.ArrayDeque;
import java.util.ArrayList;
import java.util.Arrays;
import java.util.Deque;
import java.util.HashMap;
import java.util.List;
import java.util.Map;
import java.util.NoSuchElementException;
import java.util.function.Predicate;
import java.util.function.ToIntFunction;
import java.util.regex.Matcher;
import java.util.regex.Pattern;

/**
 * The parish once more, after the document's words: in the plainest way, with the whole library, and by force
 * where the program is clever. Each method answers and throws as that of the face does.
 */
final class Model {
    private final List<Integer> tape = new ArrayList<>();
    private final Deque<World> past = new ArrayDeque<>();
    World w = new World();
    private World image;
    int fault = -1;

    private void act() {
        past.addLast(w.copy());
        if (past.size() > 12) {
            past.removeFirst();
        }
    }

    private Child needChild(int child) {
        if (child < 0 || child > w.children.size() - 1) {
            throw new IndexOutOfBoundsException();
        }
        return w.children.get(child);
    }

    private static void need(boolean right) {
        if (!right) {
            throw new IllegalArgumentException();
        }
    }

    private static void needState(boolean right) {
        if (!right) {
            throw new IllegalStateException();
        }
    }

    private static void needIndex(boolean right) {
        if (!right) {
            throw new IndexOutOfBoundsException();
        }
    }

    private static void needWhat(int what, int most) {
        if (what < 0 || what > most) {
            throw new NoSuchElementException();
        }
    }

    private List<Integer> take() {
        List<Integer> taken = new ArrayList<>(tape);
        tape.clear();
        return taken;
    }

    private String takeText() {
        StringBuilder text = new StringBuilder();
        for (int b : take()) {
            text.append((char) b);
        }
        return text.toString();
    }

    int feed(int... numbers) {
        if (tape.size() > 380) {
            return -1;
        }
        for (int number : numbers) {
            for (byte b : ByteBuffer.allocate(4).putInt(number).array()) {
                tape.add(b & 255);
            }
        }
        return tape.size();
    }

    int end(int n) {
        if (n < 0 || tape.size() < n) {
            return 0;
        }
        tape.subList(n, tape.size()).clear();
        return 1;
    }

    int parish() {
        String text = takeText();
        World read = w.copy();
        fault = -1;
        try {
            new Reader(text).parish(read);
        } catch (Wrong e) {
            fault = e.at;
        }
        need(fault == -1);
        if (w.texts == 12) {
            throw new UnsupportedOperationException();
        }
        read.texts++;
        w = read;
        past.clear();
        return w.texts;
    }

    int law() {
        String text = takeText();
        fault = -1;
        try {
            w.law = new Reader(text).law();
        } catch (Wrong e) {
            fault = e.at;
        }
        need(fault == -1);
        past.clear();
        return w.law.size();
    }

    int thing(int thing, int what) {
        needIndex(thing >= 0 && thing <= 7);
        needWhat(what, 4);
        int wishes = w.count(c -> c.wish == thing);
        int keepers = w.count(c -> c.keeps == thing);
        return new int[] {w.meant[thing], w.size[thing], w.warm[thing], w.worth[thing],
            w.worth[thing] * wishes / (1 + keepers)}[what];
    }

    int child(int child, int what) {
        Child c = needChild(child);
        needWhat(what, 11);
        int all = w.sum(o -> o.fate);
        return new int[] {c.age, c.inside, c.bits(), c.grip, c.wish, c.keeps, c.fate, c.opened ? 1 : 0, c.knot,
            w.loosens(child), w.leads(child), all == 0 ? 0 : 100 * c.fate / all}[what];
    }

    int months(int n) {
        need(n >= 1 && n <= 120);
        act();
        int opened = 0;
        for (int i = 0; i < n; i++) {
            opened += w.month(true);
        }
        return opened;
    }

    int birth() {
        needState(w.children.size() < 8);
        act();
        int all = Arrays.stream(w.meant).sum();
        int inside = 8;
        if (all > 0) {
            int draw = w.draw() % all;
            List<Integer> urn = new ArrayList<>();
            for (int t = 0; t <= 8; t++) {
                for (int i = 0; i < w.meant[t]; i++) {
                    urn.add(t);
                }
            }
            inside = urn.get(draw);
        }
        w.children.add(new Child(inside));
        return w.children.size() - 1;
    }

    int move(int child, int finger) {
        Child c = needChild(child);
        needIndex(finger >= 0 && finger <= 4);
        needState(!c.opened);
        needState(c.knot < 0 || World.knotLets(c.shut, w.children.get(c.knot).shut, finger));
        act();
        c.shut[finger] = !c.shut[finger];
        if (c.shutOnes() == 0) {
            if (c.knot >= 0) {
                w.children.get(c.knot).knot = -1;
                c.knot = -1;
            }
            w.open(child);
        }
        return c.bits();
    }

    int blow(int child) {
        Child c = needChild(child);
        needState(c.keeps >= 0);
        act();
        int kept = c.keeps;
        c.keeps = -1;
        return kept;
    }

    int wish(int child, int thing) {
        Child c = needChild(child);
        needIndex(thing >= -1 && thing <= 7);
        act();
        int was = c.wish;
        c.wish = thing;
        return was;
    }

    int grip(int child, int n) {
        Child c = needChild(child);
        need(n >= 0 && n <= 9);
        act();
        int was = c.grip;
        c.grip = n;
        return was;
    }

    int change(int child, int other) {
        Child a = needChild(child);
        Child b = needChild(other);
        need(child != other);
        needState(a.opened && b.opened);
        act();
        int kept = a.keeps;
        a.keeps = b.keeps;
        b.keeps = kept;
        return a.keeps;
    }

    int cut(int child) {
        Child c = needChild(child);
        needState(c.knot >= 0);
        act();
        int other = c.knot;
        c.knot = -1;
        w.children.get(other).knot = -1;
        return other;
    }

    /** Of both children, the one of the smaller number first. */
    private boolean[] pair(Child c) {
        Child a = w.children.get(Math.min(c.knot, w.children.get(c.knot).knot));
        Child b = w.children.get(a.knot);
        boolean[] both = Arrays.copyOf(a.shut, 10);
        System.arraycopy(b.shut, 0, both, 5, 5);
        return both;
    }

    private static boolean lets(boolean[] both, int move) {
        boolean[] a = Arrays.copyOfRange(both, 0, 5);
        boolean[] b = Arrays.copyOfRange(both, 5, 10);
        return move < 5 ? World.knotLets(a, b, move) : World.knotLets(b, a, move - 5);
    }

    private static boolean isOut(boolean[] both) {
        boolean first = false;
        boolean second = false;
        for (int i = 0; i < 5; i++) {
            first |= both[i];
            second |= both[i + 5];
        }
        return !first || !second;
    }

    /** Forward, ring by ring; -1, if nobody gets out. */
    private static int fewest(boolean[] from) {
        Map<String, Integer> far = new HashMap<>();
        Deque<boolean[]> rest = new ArrayDeque<>();
        far.put(Arrays.toString(from), 0);
        rest.add(from);
        while (!rest.isEmpty()) {
            boolean[] both = rest.remove();
            int so = far.get(Arrays.toString(both));
            if (isOut(both)) {
                return so;
            }
            for (int move = 0; move < 10; move++) {
                boolean[] then = both.clone();
                then[move] = !then[move];
                if (lets(both, move) && far.putIfAbsent(Arrays.toString(then), so + 1) == null) {
                    rest.add(then);
                }
            }
        }
        return -1;
    }

    int moves(int child) {
        Child c = needChild(child);
        return c.knot < 0 ? -1 : fewest(pair(c));
    }

    int first(int child) {
        int fewest = moves(child);
        for (int move = 0; fewest > 0 && move < 10; move++) {
            boolean[] both = pair(w.children.get(child));
            if (lets(both, move)) {
                both[move] = !both[move];
                if (fewest(both) == fewest - 1) {
                    return move;
                }
            }
        }
        return -1;
    }

    int can(int child) {
        Child c = needChild(child);
        int bits = 0;
        for (int move = 0; c.knot >= 0 && move < 10; move++) {
            bits += lets(pair(c), move) ? 1 << move : 0;
        }
        return bits;
    }

    private static boolean isRows(List<Integer> bytes, int left, int right) {
        if (bytes.size() > 40 || bytes.size() % 2 == 1) {
            return false;
        }
        for (int i = 0; i < bytes.size(); i++) {
            if (bytes.get(i) > (i % 2 == 0 ? left : right)) {
                return false;
            }
        }
        return true;
    }

    int felt(int what, int thing) {
        return what == 0 ? w.size[thing] : what == 1 ? w.warm[thing] : w.worth[thing] / 10;
    }

    private List<Integer> fitting(List<Integer> rows) {
        List<Integer> fit = new ArrayList<>();
        for (int t = 0; t <= 8; t++) {
            boolean fits = w.meant[t] > 0;
            for (int i = 0; i < rows.size(); i += 2) {
                int felt = felt(rows.get(i), t);
                int told = rows.get(i + 1);
                fits &= told - 1 <= felt && felt <= told + 1;
            }
            if (fits) {
                fit.add(t);
            }
        }
        return fit;
    }

    private int expect(List<Integer> fit) {
        int weights = fit.stream().mapToInt(t -> w.meant[t]).sum();
        return weights == 0 ? 0 : fit.stream().mapToInt(t -> w.meant[t] * w.worth[t]).sum() / weights;
    }

    int feels(int what) {
        List<Integer> rows = take();
        need(isRows(rows, 2, 10));
        needWhat(what, 2);
        List<Integer> fit = fitting(rows);
        if (what == 0) {
            return fit.stream().mapToInt(t -> 1 << t).sum();
        }
        int likely = -1;
        for (int t : fit) {
            likely = likely < 0 || w.meant[t] > w.meant[likely] ? t : likely;
        }
        return what == 1 ? likely : expect(fit);
    }

    int odds(int thing) {
        List<Integer> rows = take();
        needIndex(thing >= 0 && thing <= 8);
        need(isRows(rows, 2, 10));
        List<Integer> fit = fitting(rows);
        int weights = fit.stream().mapToInt(t -> w.meant[t]).sum();
        return fit.contains(thing) ? 10000 * w.meant[thing] / weights : 0;
    }

    int ask() {
        List<Integer> rows = take();
        need(isRows(rows, 2, 10));
        List<Integer> fit = fitting(rows);
        int best = -1;
        int least = 1000;
        for (int what = 0; what < 3 && fit.size() > 1; what++) {
            Map<Integer, Integer> parts = new HashMap<>();
            for (int t : fit) {
                parts.merge(felt(what, t), 1, Integer::sum);
            }
            int greatest = parts.values().stream().mapToInt(i -> i).max().getAsInt();
            if (greatest < least) {
                least = greatest;
                best = what;
            }
        }
        return best;
    }

    int waits(int child) {
        needChild(child);
        for (int n = 0; n <= 100; n++) {
            if (w.later(n, false).children.get(child).opened) {
                return n;
            }
        }
        return -1;
    }

    int next() {
        int open = w.set(c -> c.opened);
        World then = w.copy();
        for (int n = 1; n <= 100; n++) {
            then.month(false);
            int more = then.set(c -> c.opened) - open;
            if (more != 0) {
                return Integer.numberOfTrailingZeros(more);
            }
        }
        return -1;
    }

    int keep(int n) {
        need(n >= 0 && n <= 100);
        return w.later(n, false).count(c -> !c.opened);
    }

    int fates(int n) {
        need(n >= 0 && n <= 100);
        return w.later(n, false).sum(c -> c.fate);
    }

    int last() {
        int last = -1;
        World then = w.copy();
        for (int n = 1; n <= 100; n++) {
            last = then.month(false) > 0 ? n : last;
        }
        return last;
    }

    int ahead(int child, int n) {
        needChild(child);
        need(n >= 0 && n <= 100);
        return w.later(n, false).children.get(child).bits();
    }

    /** How many gifts the children from this one on can make, if these have got one. */
    private int gifts(int child, int got, Map<Integer, Integer> known) {
        if (child == w.children.size()) {
            return 0;
        }
        Integer there = known.get(child << 8 | got);
        if (there != null) {
            return there;
        }
        int most = gifts(child + 1, got, known);
        for (int to = 0; to < w.children.size(); to++) {
            if (mayGive(child, to, got)) {
                most = Math.max(most, 1 + gifts(child + 1, got | 1 << to, known));
            }
        }
        known.put(child << 8 | got, most);
        return most;
    }

    private boolean mayGive(int child, int to, int got) {
        int keeps = w.children.get(child).keeps;
        return keeps >= 0 && w.children.get(to).wish == keeps && (got >> to & 1) == 0;
    }

    int gives(int asked) {
        if (asked != -1) {
            needChild(asked);
        }
        Map<Integer, Integer> known = new HashMap<>();
        if (asked == -1) {
            return gifts(0, 0, known);
        }
        int got = 0;
        for (int c = 0; c < asked; c++) {
            int to = taker(c, got, known);
            got |= to < 0 ? 0 : 1 << to;
        }
        return taker(asked, got, known);
    }

    private int taker(int child, int got, Map<Integer, Integer> known) {
        int most = gifts(child, got, known);
        List<Integer> order = new ArrayList<>();
        order.add(child);
        for (int c = 0; c < w.children.size(); c++) {
            order.add(c);
        }
        for (int to : order) {
            if (mayGive(child, to, got) && 1 + gifts(child + 1, got | 1 << to, known) == most) {
                return to;
            }
        }
        return -1;
    }

    private boolean rather(Child c, int thing, int own) {
        if (thing == own) {
            return false;
        }
        return thing == c.wish || own != c.wish && w.worth[thing] > w.worth[own];
    }

    /** Whose thing each gets, and how many are in its ring: one ring after another. */
    private int[][] rings() {
        int n = w.children.size();
        int[] gets = new int[n];
        int[] rings = new int[n];
        List<Integer> left = new ArrayList<>();
        for (int c = 0; c < n; c++) {
            gets[c] = -1;
            if (w.children.get(c).keeps >= 0) {
                left.add(c);
            }
        }
        while (!left.isEmpty()) {
            int at = left.get(0);
            for (int i = 0; i < 10; i++) {
                at = points(at, left);
            }
            List<Integer> ring = new ArrayList<>();
            for (int c = at; !ring.contains(c); c = points(c, left)) {
                ring.add(c);
            }
            for (int c : ring) {
                gets[c] = points(c, left);
                rings[c] = ring.size();
            }
            left.removeAll(ring);
        }
        return new int[][] {gets, rings};
    }

    private int points(int child, List<Integer> left) {
        Child c = w.children.get(child);
        int best = child;
        for (int other : left) {
            if (rather(c, w.children.get(other).keeps, w.children.get(best).keeps)) {
                best = other;
            }
        }
        return best;
    }

    int trade(int child) {
        needChild(child);
        return rings()[0][child];
    }

    int ring(int child) {
        needChild(child);
        return rings()[1][child];
    }

    int swap(int child, int other) {
        Child a = needChild(child);
        Child b = needChild(other);
        need(child != other);
        return a.keeps >= 0 && b.keeps >= 0 && rather(a, b.keeps, a.keeps) && rather(b, a.keeps, b.keeps) ? 1 : 0;
    }

    int all() {
        int n = w.children.size();
        int best = -1;
        int goal = thingsOf((1 << n) - 1);
        for (int set = 0; set < 1 << n; set++) {
            if (thingsOf(set) == goal && (best < 0 || Integer.bitCount(set) < Integer.bitCount(best))) {
                best = set;
            }
        }
        return best;
    }

    private int thingsOf(int set) {
        int things = 0;
        for (int c = 0; c < w.children.size(); c++) {
            int keeps = w.children.get(c).keeps;
            things |= (set >> c & 1) != 0 && keeps >= 0 ? 1 << keeps : 0;
        }
        return things;
    }

    int missing() {
        int bits = 0;
        for (int t = 0; t < 8; t++) {
            bits |= w.meant[t] > 0 ? 1 << t : 0;
        }
        return bits & ~thingsOf(255);
    }

    int nobody() {
        int[] wishes = new int[8];
        for (Child c : w.children) {
            if (c.wish >= 0) {
                wishes[c.wish]++;
            }
        }
        int fewest = Arrays.stream(wishes).min().getAsInt();
        int thing = 0;
        while (wishes[thing] != fewest) {
            thing++;
        }
        return thing;
    }

    private List<int[]> pairs(List<Integer> rows) {
        List<int[]> pairs = new ArrayList<>();
        for (int m = 0; m <= 9; m++) {
            for (int k = 0; k <= 99; k++) {
                boolean fits = true;
                for (int i = 0; i < rows.size(); i += 2) {
                    fits &= w.worth[rows.get(i)] * m + k == rows.get(i + 1);
                }
                if (fits) {
                    pairs.add(new int[] {m, k});
                }
            }
        }
        return pairs;
    }

    int rules(boolean least) {
        List<Integer> rows = take();
        need(isRows(rows, 7, 255));
        List<int[]> pairs = pairs(rows);
        if (!least) {
            return pairs.size();
        }
        return pairs.isEmpty() ? -1 : 100 * pairs.get(0)[0] + pairs.get(0)[1];
    }

    int tell() {
        List<Integer> rows = take();
        need(isRows(rows, 7, 255));
        List<int[]> pairs = pairs(rows);
        int best = -1;
        int least = 100000;
        for (int t = 0; t < 8 && pairs.size() > 1; t++) {
            Map<Integer, Integer> parts = new HashMap<>();
            for (int[] pair : pairs) {
                parts.merge(w.worth[t] * pair[0] + pair[1], 1, Integer::sum);
            }
            int greatest = parts.values().stream().mapToInt(i -> i).max().getAsInt();
            if (greatest < least) {
                least = greatest;
                best = t;
            }
        }
        return best;
    }

    int rests(int child) {
        Child c = needChild(child);
        if (c.opened) {
            return -1;
        }
        int expect = expect(fitting(List.of()));
        int[][] family = {{-c.grip, expect}, {0, expect / 2}};
        int[][] own = {{1, -2}, {0, 2}};
        int bits = 0;
        for (int f = 0; f < 2; f++) {
            for (int h = 0; h < 2; h++) {
                boolean rests = family[1 - f][h] <= family[f][h] && own[f][1 - h] <= own[f][h];
                bits += rests ? 1 << 2 * f + h : 0;
            }
        }
        return bits;
    }

    int nothing(int n) {
        need(n >= 0 && n <= 4);
        int all = Arrays.stream(w.meant).sum();
        if (all == 0) {
            return n == 0 ? 10000 : 0;
        }
        int odds = 10000;
        for (int i = 0; i < n; i++) {
            odds = odds * w.meant[8] / all;
        }
        return odds;
    }

    int richest() {
        int best = -1;
        for (int c = w.children.size() - 1; c >= 0; c--) {
            int keeps = w.children.get(c).keeps;
            if (keeps >= 0 && (best < 0 || w.worth[keeps] >= w.worth[w.children.get(best).keeps])) {
                best = c;
            }
        }
        return best;
    }

    int oldest() {
        int best = -1;
        for (int c = w.children.size() - 1; c >= 0; c--) {
            if (!w.children.get(c).opened && (best < 0 || w.children.get(c).age >= w.children.get(best).age)) {
                best = c;
            }
        }
        return best;
    }

    int twins() {
        int pairs = 0;
        for (int a = 0; a < w.children.size(); a++) {
            for (int b = 0; b < a; b++) {
                int keeps = w.children.get(a).keeps;
                pairs += keeps >= 0 && keeps == w.children.get(b).keeps ? 1 : 0;
            }
        }
        return pairs;
    }

    int trial(int n, boolean fate) {
        need(n >= 0 && n <= 100);
        World then = w.later(n, true);
        return fate ? then.sum(c -> c.fate) : then.set(c -> c.opened);
    }

    int span(int n, boolean most) {
        need(n >= 0 && n <= 100);
        int[] opened = new int[6];
        for (int seed = 1; seed <= 6; seed++) {
            World from = w.copy();
            from.seed = seed;
            opened[seed - 1] = from.later(n, true).count(c -> c.opened);
        }
        Arrays.sort(opened);
        return most ? opened[5] : opened[0];
    }

    int led(int child, boolean inside) {
        needChild(child);
        int answer = -1;
        for (int[] row : w.log) {
            answer = row[1] == child ? inside ? row[2] : row[0] : answer;
        }
        return answer;
    }

    int log(int ago, int what) {
        needWhat(what, 4);
        return ago < 0 || ago >= w.log.size() ? -1 : w.log.get(w.log.size() - 1 - ago)[what];
    }

    int seed(int n) {
        int was = w.seed;
        w.seed = n;
        return was;
    }

    int undo() {
        if (past.isEmpty()) {
            return 0;
        }
        w = past.removeLast();
        return 1;
    }

    int image() {
        image = w.copy();
        return 0;
    }

    int back() {
        if (image == null) {
            return 0;
        }
        w = image.copy();
        past.clear();
        return 1;
    }

    int count(int what) {
        int meant = Arrays.stream(w.meant).sum() - w.meant[8];
        int[] counts = {w.children.size(), w.texts, w.law == null ? -1 : w.law.size(), w.month, w.meant[8], meant,
            w.sum(c -> c.fate), w.sum(Child::shutOnes), w.log.size(), past.size()};
        return what < 0 || what > 9 ? -1 : counts[what];
    }

    /** Where a text is wrong. */
    private static final class Wrong extends RuntimeException {
        private static final long serialVersionUID = 1L;
        final int at;

        Wrong(int at) {
            this.at = at;
        }
    }

    static final class Child {
        int age;
        int inside;
        int grip = 5;
        int wish = -1;
        int keeps = -1;
        int fate;
        int knot = -1;
        boolean opened;
        boolean[] shut = {true, true, true, true, true};

        Child(int inside) {
            this.inside = inside;
        }

        Child copy() {
            Child c = new Child(inside);
            c.age = age;
            c.grip = grip;
            c.wish = wish;
            c.keeps = keeps;
            c.fate = fate;
            c.knot = knot;
            c.opened = opened;
            c.shut = shut.clone();
            return c;
        }

        int shutOnes() {
            int n = 0;
            for (boolean finger : shut) {
                n += finger ? 1 : 0;
            }
            return n;
        }

        int bits() {
            int bits = 0;
            for (int f = 4; f >= 0; f--) {
                bits = 2 * bits + (shut[f] ? 1 : 0);
            }
            return bits;
        }
    }

    /** What is looked at by a condition of the law. */
    private record Sight(World world, int number) {
        Child child() {
            return world.children.get(number);
        }
    }

    private interface Condition {
        boolean holds(Sight sight);
    }

    private interface Sum {
        int of(Sight sight);
    }

    private record Rule(String kind, int n, Condition condition) {
    }

    static final class World {
        int[] meant = {1, 1, 1, 1, 1, 1, 1, 1, 1};
        int[] size = new int[9];
        int[] warm = new int[9];
        int[] worth = new int[9];
        List<Child> children = new ArrayList<>();
        List<int[]> log = new ArrayList<>();
        List<Rule> law;
        int month;
        int seed = 1;
        int texts;

        World copy() {
            World w = new World();
            w.meant = meant.clone();
            w.size = size.clone();
            w.warm = warm.clone();
            w.worth = worth.clone();
            for (Child c : children) {
                w.children.add(c.copy());
            }
            w.log.addAll(log);
            w.law = law;
            w.month = month;
            w.seed = seed;
            w.texts = texts;
            return w;
        }

        int set(Predicate<Child> which) {
            int bits = 0;
            for (int c = 0; c < children.size(); c++) {
                bits += which.test(children.get(c)) ? 1 << c : 0;
            }
            return bits;
        }

        int count(Predicate<Child> which) {
            return Integer.bitCount(set(which));
        }

        int sum(ToIntFunction<Child> what) {
            return children.stream().mapToInt(what).sum();
        }

        int lawSum(String kind, int number) {
            int sum = 0;
            if (law != null) {
                for (Rule rule : law) {
                    if (rule.kind.equals(kind) && rule.condition.holds(new Sight(this, number))) {
                        sum += rule.n;
                    }
                }
            }
            return sum;
        }

        int loosens(int number) {
            int by = 10 + lawSum("loosen", number) - 5 * children.get(number).grip - lawSum("grip", number);
            return Math.max(0, by);
        }

        int leads(int number) {
            return worth[children.get(number).inside] + lawSum("lead", number);
        }

        int draw() {
            long next = 1103515245L * seed + 12345L;
            seed = (int) next;
            return (int) ((next & 0x7fff0000L) >> 16);
        }

        void open(int number) {
            Child c = children.get(number);
            int fate = Math.min(999, c.fate + leads(number));
            c.keeps = c.inside == 8 ? -1 : c.inside;
            c.fate = fate;
            c.opened = true;
            log.add(new int[] {month, number, c.inside, c.age, fate});
        }

        /** With fate: by draws; without: AHEAD. */
        int month(boolean draws) {
            int opened = 0;
            for (int i = 0; i < children.size(); i++) {
                Child c = children.get(i);
                if (c.opened) {
                    continue;
                }
                c.age = c.age == 999 ? 999 : c.age + 1;
                int draw = draws ? draw() % 100 : -1;
                boolean loose = draws ? draw < loosens(i) : loosens(i) >= 50;
                if (loose && c.knot == -1) {
                    for (int f = 0; f < 5; f++) {
                        if (c.shut[f]) {
                            c.shut[f] = false;
                            break;
                        }
                    }
                    if (c.shutOnes() == 0) {
                        open(i);
                        opened++;
                    }
                }
            }
            month = month == 9999 ? 9999 : month + 1;
            return opened;
        }

        World later(int n, boolean draws) {
            World w = copy();
            for (int i = 0; i < n; i++) {
                w.month(draws);
            }
            return w;
        }

        static boolean knotLets(boolean[] mine, boolean[] others, int finger) {
            if (finger == 0) {
                return true;
            }
            boolean lets = mine[finger - 1] && others[finger];
            for (int f = 0; f < finger - 1; f++) {
                lets &= !mine[f];
            }
            return lets;
        }
    }

    /** Reads a text; all that is wrong is thrown with its place. */
    private static final class Reader {
        private static final Pattern PIECE = Pattern.compile("[a-z]+|[0-9]+|[^ ]", Pattern.DOTALL);
        final List<String> pieces = new ArrayList<>();
        final List<Integer> places = new ArrayList<>();
        int next = 0;

        Reader(String text) {
            Matcher m = PIECE.matcher(text);
            while (m.find()) {
                pieces.add(m.group());
                places.add(m.start());
            }
            pieces.add("");
            places.add(text.length());
        }

        Wrong wrong() {
            return new Wrong(places.get(next));
        }

        boolean sees(String piece) {
            return pieces.get(next).equals(piece);
        }

        boolean passes(String piece) {
            if (sees(piece)) {
                next++;
                return true;
            }
            return false;
        }

        void must(String piece) {
            if (!passes(piece)) {
                throw wrong();
            }
        }

        int number(int most) {
            if (!pieces.get(next).matches("[0-9]{1,3}") || Integer.parseInt(pieces.get(next)) > most) {
                throw wrong();
            }
            return Integer.parseInt(pieces.get(next++));
        }

        int letter() {
            if (!pieces.get(next).matches("[a-h]")) {
                throw wrong();
            }
            return pieces.get(next++).charAt(0) - 'a';
        }

        void lines(int most, Runnable line) {
            if (sees("")) {
                return;
            }
            for (int n = 1;; n++) {
                if (n > most) {
                    throw wrong();
                }
                line.run();
                if (sees("")) {
                    return;
                }
                must(";");
            }
        }

        void parish(World w) {
            lines(14, () -> parishLine(w));
        }

        void parishLine(World w) {
            if (passes("thing")) {
                int thing = letter();
                must("meant");
                w.meant[thing] = number(9);
                must("size");
                w.size[thing] = number(9);
                must("warm");
                w.warm[thing] = number(9);
                must("worth");
                w.worth[thing] = number(99);
            } else if (sees("child") && w.children.size() < 8) {
                next++;
                Child c = new Child(passes("none") ? 8 : letter());
                c.age = passes("age") ? number(999) : c.age;
                c.grip = passes("grip") ? number(9) : c.grip;
                c.wish = passes("wish") ? letter() : c.wish;
                w.children.add(c);
            } else if (passes("knot")) {
                knot(w);
            } else if (passes("empty")) {
                w.meant[8] = number(9);
            } else if (passes("month")) {
                w.month = number(999);
            } else {
                throw wrong();
            }
        }

        void knot(World w) {
            int one = number(w.children.size() - 1);
            int at = next;
            int other = number(w.children.size() - 1);
            Child a = w.children.get(one);
            Child b = w.children.get(other);
            if (one == other || a.knot >= 0 || b.knot >= 0 || a.bits() != 31 || b.bits() != 31) {
                throw new Wrong(places.get(at));
            }
            a.knot = other;
            b.knot = one;
        }

        List<Rule> law() {
            List<Rule> rules = new ArrayList<>();
            lines(12, () -> {
                String kind = pieces.get(next);
                if (!kind.equals("loosen") && !kind.equals("grip") && !kind.equals("lead")) {
                    throw wrong();
                }
                next++;
                int n = number(100);
                Condition condition = passes("if") ? any(0) : s -> true;
                rules.add(new Rule(kind, n, condition));
            });
            return rules;
        }

        Condition any(int deep) {
            List<Condition> parts = new ArrayList<>();
            do {
                parts.add(every(deep));
            } while (passes("or"));
            return s -> parts.stream().anyMatch(p -> p.holds(s));
        }

        Condition every(int deep) {
            List<Condition> parts = new ArrayList<>();
            do {
                parts.add(atom(deep));
            } while (passes("and"));
            return s -> parts.stream().allMatch(p -> p.holds(s));
        }

        Condition atom(int deep) {
            if ((sees("not") || sees("(")) && deep == 6) {
                throw wrong();
            }
            if (passes("not")) {
                Condition part = atom(deep + 1);
                return s -> !part.holds(s);
            }
            if (passes("(")) {
                Condition part = any(deep + 1);
                must(")");
                return part;
            }
            if (passes("knotted")) {
                return s -> s.child().knot >= 0;
            }
            if (passes("wished")) {
                return s -> s.child().wish >= 0 && s.child().wish == s.child().inside;
            }
            if (passes("nothing")) {
                return s -> s.child().inside == 8;
            }
            Sum left = sum();
            boolean less = sees("<");
            if (!less && !sees(">")) {
                throw wrong();
            }
            next++;
            Sum right = sum();
            return s -> less ? left.of(s) < right.of(s) : left.of(s) > right.of(s);
        }

        Sum sum() {
            List<Sum> parts = new ArrayList<>();
            do {
                parts.add(part());
            } while (passes("+"));
            return s -> parts.stream().mapToInt(p -> p.of(s)).sum();
        }

        Sum part() {
            switch (pieces.get(next)) {
                case "child": next++; return s -> s.number;
                case "age": next++; return s -> s.child().age;
                case "grip": next++; return s -> s.child().grip;
                case "size": next++; return s -> s.world.size[s.child().inside];
                case "warm": next++; return s -> s.world.warm[s.child().inside];
                case "worth": next++; return s -> s.world.worth[s.child().inside];
                case "shut": next++; return s -> s.child().shutOnes();
                case "month": next++; return s -> s.world.month;
                default:
                    int number = number(999);
                    return s -> number;
            }
        }
    }
}
