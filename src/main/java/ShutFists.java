import java.util.NoSuchElementException;

/** A parish in which one is born with its fist shut on what was meant for it. */
public final class ShutFists {
    public static final int NONE = -1;

    private static final int THINGS = 8;
    private static final int NOTHING = 8;
    private static final int CHILDREN = 8;
    private static final int FINGERS = 5;
    private static final int ALL_SHUT = 31;

    private static final int TAPE_ROOM = 400;
    private static final int FEED_BYTES = 20;
    private static final int ROWS = 20;
    private static final int MOST_TEXTS = 12;
    private static final int PARISH_LINES = 14;
    private static final int LAW_LINES = 12;
    private static final int DEEPEST = 6;
    private static final int REMEMBERED = 12;

    private static final int MOST_AGE = 999;
    private static final int MOST_FATE = 999;
    private static final int MOST_MONTH = 9999;
    private static final int MOST_MONTH_TOLD = 999;
    private static final int MOST_MONTHS = 120;
    private static final int MOST_AHEAD = 100;
    private static final int MOST_BIRTHS = 4;
    private static final int SPAN_SEEDS = 6;
    private static final int LOOSE_AHEAD = 50;
    private static final int IN_ALL = 10000;

    // Facts of a thing, numbered as thing() tells them.
    private static final int MEANT = 0;
    private static final int SIZE = 1;
    private static final int WARM = 2;
    private static final int WORTH = 3;
    private static final int PRICE = 4;
    private static final int THING_FACTS = 4;

    // Facts of a child, numbered as child() tells them.
    private static final int AGE = 0;
    private static final int INSIDE = 1;
    private static final int SHUT = 2;
    private static final int GRIP = 3;
    private static final int WISH = 4;
    private static final int KEEPS = 5;
    private static final int FATE = 6;
    private static final int OPENED = 7;
    private static final int KNOT = 8;
    private static final int LOOSENS = 9;
    private static final int LEADS = 10;
    private static final int SHARE = 11;
    private static final int CHILD_FACTS = 9;

    // Facts of a row of the log, numbered as log() tells them.
    private static final int LOG_MONTH = 0;
    private static final int LOG_CHILD = 1;
    private static final int LOG_INSIDE = 2;
    private static final int LOG_AGE = 3;
    private static final int LOG_FATE = 4;
    private static final int LOG_FACTS = 5;

    private final Tape tape = new Tape();
    private final State now = new State();
    private final State spare = new State();
    private final State kept = new State();
    private final Past past = new Past();
    private final Law standing = new Law();
    private final Law draft = new Law();
    private final Law keptLaw = new Law();
    private final ParishText parishText = new ParishText(spare);
    private final LawText lawText = new LawText(draft);
    private final Knots knots = new Knots();
    private final Market market = new Market();
    private final Guesses guesses = new Guesses();
    private boolean imaged = false;
    private int wrong = NONE;

    public ShutFists() {
    }

    public int feed(int a, int b, int c, int d, int e) {
        if (tape.length + FEED_BYTES > TAPE_ROOM) {
            return NONE;
        }
        tape.put(a);
        tape.put(b);
        tape.put(c);
        tape.put(d);
        tape.put(e);
        return tape.length;
    }

    public boolean end(int n) {
        if (n < 0 || n > tape.length) {
            return false;
        }
        tape.length = n;
        return true;
    }

    public int parish() throws IllegalArgumentException, UnsupportedOperationException {
        spare.copyFrom(now);
        wrong = parishText.read(tape, PARISH_LINES);
        tape.length = 0;
        if (wrong != NONE) {
            throw new IllegalArgumentException("the text of the parish is wrong");
        }
        if (now.texts >= MOST_TEXTS) {
            throw new UnsupportedOperationException("there are 12 texts");
        }
        spare.texts++;
        now.copyFrom(spare);
        past.forget();
        return now.texts;
    }

    public int law() throws IllegalArgumentException {
        draft.clear();
        wrong = lawText.read(tape, LAW_LINES);
        tape.length = 0;
        if (wrong != NONE) {
            throw new IllegalArgumentException("the text of the law is wrong");
        }
        standing.copyFrom(draft);
        past.forget();
        return standing.lines;
    }

    public int fault() {
        return wrong;
    }

    public int thing(int thing, int what) throws IndexOutOfBoundsException, NoSuchElementException {
        needThing(thing);
        if (what < MEANT || what > PRICE) {
            throw new NoSuchElementException("a thing has no such fact");
        }
        return what == PRICE ? now.price(thing) : now.things[what][thing];
    }

    public int child(int child, int what) throws IndexOutOfBoundsException, NoSuchElementException {
        needChild(child);
        if (what < AGE || what > SHARE) {
            throw new NoSuchElementException("a child has no such fact");
        }
        switch (what) {
            case LOOSENS:
                return standing.loosens(now, child);
            case LEADS:
                return standing.leads(now, child);
            case SHARE:
                return now.share(child);
            default:
                return now.children[what][child];
        }
    }

    public int months(int n) throws IllegalArgumentException {
        if (n < 1 || n > MOST_MONTHS) {
            throw new IllegalArgumentException("months are 1 to 120");
        }
        past.remember(now);
        int opened = 0;
        for (int i = 0; i < n; i++) {
            opened += now.pass(standing, true);
        }
        return opened;
    }

    public int birth() throws IllegalStateException {
        if (now.size >= CHILDREN) {
            throw new IllegalStateException("there are 8 children");
        }
        past.remember(now);
        return now.add(now.drawThing());
    }

    public int move(int child, int finger) throws IndexOutOfBoundsException, IllegalStateException {
        needChild(child);
        if (finger < 0 || finger >= FINGERS) {
            throw new IndexOutOfBoundsException("there is no such finger");
        }
        if (!now.isMovable(child, finger)) {
            throw new IllegalStateException("the finger cannot be moved");
        }
        past.remember(now);
        now.moveFinger(child, finger, standing);
        return now.children[SHUT][child];
    }

    public int blow(int child) throws IndexOutOfBoundsException, IllegalStateException {
        needChild(child);
        if (now.children[KEEPS][child] == NONE) {
            throw new IllegalStateException("the child keeps nothing");
        }
        return tellFact(KEEPS, child, NONE);
    }

    public int wish(int child, int thing) throws IndexOutOfBoundsException {
        needChild(child);
        if (thing != NONE) {
            needThing(thing);
        }
        return tellFact(WISH, child, thing);
    }

    public int grip(int child, int n) throws IndexOutOfBoundsException, IllegalArgumentException {
        needChild(child);
        if (n < 0 || n > 9) {
            throw new IllegalArgumentException("a grip is 0 to 9");
        }
        return tellFact(GRIP, child, n);
    }

    public int change(int child, int other)
            throws IndexOutOfBoundsException, IllegalArgumentException, IllegalStateException {
        needTwo(child, other);
        if (now.children[OPENED][child] == 0 || now.children[OPENED][other] == 0) {
            throw new IllegalStateException("both must be opened");
        }
        past.remember(now);
        int gets = now.children[KEEPS][other];
        now.children[KEEPS][other] = now.children[KEEPS][child];
        now.children[KEEPS][child] = gets;
        return gets;
    }

    public int cut(int child) throws IndexOutOfBoundsException, IllegalStateException {
        needChild(child);
        int other = now.children[KNOT][child];
        if (other == NONE) {
            throw new IllegalStateException("there is no knot");
        }
        past.remember(now);
        now.untie(child);
        return other;
    }

    public int moves(int child) throws IndexOutOfBoundsException {
        needChild(child);
        int pair = now.pairOf(child);
        return pair == NONE ? NONE : knots.fewest(pair);
    }

    public int first(int child) throws IndexOutOfBoundsException {
        needChild(child);
        int pair = now.pairOf(child);
        return pair == NONE ? NONE : knots.leastFirst(pair);
    }

    public int can(int child) throws IndexOutOfBoundsException {
        needChild(child);
        int pair = now.pairOf(child);
        return pair == NONE ? 0 : Knots.movesNow(pair);
    }

    public int feels(int what) throws IllegalArgumentException, NoSuchElementException {
        needFeels();
        if (what < 0 || what > 2) {
            throw new NoSuchElementException("feels tell no such thing");
        }
        int fits = Feels.fitting(now, tape);
        switch (what) {
            case 0:
                return fits;
            case 1:
                return Feels.likeliest(now, fits);
            default:
                return Feels.expected(now, fits);
        }
    }

    public int odds(int thing) throws IndexOutOfBoundsException, IllegalArgumentException {
        boolean told = takeFeels();
        if (thing < 0 || thing > NOTHING) {
            throw new IndexOutOfBoundsException("there is no such thing");
        }
        if (!told) {
            throw new IllegalArgumentException("the tape does not tell feels");
        }
        return Feels.oddsOf(now, Feels.fitting(now, tape), thing);
    }

    public int ask() throws IllegalArgumentException {
        needFeels();
        return Feels.bestFeel(now, Feels.fitting(now, tape));
    }

    public int waits(int child) throws IndexOutOfBoundsException {
        needChild(child);
        spare.copyFrom(now);
        for (int n = 0; n <= MOST_AHEAD; n++) {
            if (spare.children[OPENED][child] != 0) {
                return n;
            }
            spare.pass(standing, false);
        }
        return NONE;
    }

    public int next() {
        spare.copyFrom(now);
        for (int n = 1; n <= MOST_AHEAD; n++) {
            if (spare.pass(standing, false) > 0) {
                int opened = spare.bitsOf(OPENED, 1) & ~now.bitsOf(OPENED, 1);
                return leastOf(opened);
            }
        }
        return NONE;
    }

    public int keep(int n) throws IllegalArgumentException {
        needAhead(n);
        goAhead(n);
        return spare.howMany(OPENED, 0);
    }

    public int fates(int n) throws IllegalArgumentException {
        needAhead(n);
        goAhead(n);
        return spare.allFate();
    }

    public int last() {
        spare.copyFrom(now);
        int latest = NONE;
        for (int n = 1; n <= MOST_AHEAD; n++) {
            if (spare.pass(standing, false) > 0) {
                latest = n;
            }
        }
        return latest;
    }

    public int gives(int child) throws IndexOutOfBoundsException {
        if (child != NONE) {
            needChild(child);
        }
        int given = market.settleGifts(now);
        return child == NONE ? given : market.gifts[child];
    }

    public int trade(int child) throws IndexOutOfBoundsException {
        needChild(child);
        market.settleTrade(now);
        return market.gets[child];
    }

    public int ring(int child) throws IndexOutOfBoundsException {
        needChild(child);
        market.settleTrade(now);
        return market.rings[child];
    }

    public boolean swap(int child, int other) throws IndexOutOfBoundsException, IllegalArgumentException {
        needTwo(child, other);
        return Market.isBetter(now, child, other) && Market.isBetter(now, other, child);
    }

    public int all() {
        return Market.fewestWithAll(now);
    }

    public int missing() {
        int bits = 0;
        for (int t = 0; t < THINGS; t++) {
            if (now.things[MEANT][t] > 0 && now.bitsOf(KEEPS, t) == 0) {
                bits |= 1 << t;
            }
        }
        return bits;
    }

    public int nobody() {
        int best = 0;
        for (int t = 1; t < THINGS; t++) {
            if (now.howMany(WISH, t) < now.howMany(WISH, best)) {
                best = t;
            }
        }
        return best;
    }

    public int rules(boolean least) throws IllegalArgumentException {
        needLives();
        guesses.fitTo(now, tape);
        return least ? guesses.leastPair() : guesses.fitting;
    }

    public int tell() throws IllegalArgumentException {
        needLives();
        guesses.fitTo(now, tape);
        return guesses.bestThing(now);
    }

    public int rests(int child) throws IndexOutOfBoundsException {
        needChild(child);
        if (now.children[OPENED][child] != 0) {
            return NONE;
        }
        tape.rows = 0;
        int expected = Feels.expected(now, Feels.fitting(now, tape));
        return restingChoices(expected, now.children[GRIP][child]);
    }

    public int nothing(int n) throws IllegalArgumentException {
        if (n < 0 || n > MOST_BIRTHS) {
            throw new IllegalArgumentException("births are 0 to 4");
        }
        int weights = now.allWeights();
        int odds = IN_ALL;
        for (int i = 0; i < n; i++) {
            odds = weights > 0 ? odds * now.things[MEANT][NOTHING] / weights : 0;
        }
        return odds;
    }

    public int shut() {
        return now.bitsOf(SHUT, ALL_SHUT);
    }

    public int open() {
        return now.bitsOf(OPENED, 1);
    }

    public int knotted() {
        return now.everyone() & ~now.bitsOf(KNOT, NONE);
    }

    public int content() {
        int bits = 0;
        for (int t = 0; t < THINGS; t++) {
            bits |= now.bitsOf(KEEPS, t) & now.bitsOf(WISH, t);
        }
        return bits;
    }

    public int richest() {
        int best = NONE;
        int most = NONE;
        for (int c = 0; c < now.size; c++) {
            int worth = now.worthKept(c);
            if (worth > most) {
                best = c;
                most = worth;
            }
        }
        return best;
    }

    public int oldest() {
        int best = NONE;
        int most = NONE;
        for (int c = 0; c < now.size; c++) {
            int age = now.children[AGE][c];
            if (now.children[OPENED][c] == 0 && age > most) {
                best = c;
                most = age;
            }
        }
        return best;
    }

    public int twins() {
        int pairs = 0;
        for (int t = 0; t < THINGS; t++) {
            int keepers = now.howMany(KEEPS, t);
            pairs += keepers * (keepers - 1) / 2;
        }
        return pairs;
    }

    public int ahead(int child, int n) throws IndexOutOfBoundsException, IllegalArgumentException {
        needChild(child);
        needAhead(n);
        goAhead(n);
        return spare.children[SHUT][child];
    }

    public int trial(int n, boolean fate) throws IllegalArgumentException {
        needAhead(n);
        tryMonths(n, now.seed);
        return fate ? spare.allFate() : spare.bitsOf(OPENED, 1);
    }

    public int span(int n, boolean most) throws IllegalArgumentException {
        needAhead(n);
        int best = NONE;
        for (int seed = 1; seed <= SPAN_SEEDS; seed++) {
            tryMonths(n, seed);
            int opened = spare.howMany(OPENED, 1);
            if (best == NONE || (most ? opened > best : opened < best)) {
                best = opened;
            }
        }
        return best;
    }

    public int led(int child, boolean inside) throws IndexOutOfBoundsException {
        needChild(child);
        int row = now.latestRowOf(child);
        return row == NONE ? NONE : now.log[inside ? LOG_INSIDE : LOG_MONTH][row];
    }

    public int log(int ago, int what) throws NoSuchElementException {
        if (what < LOG_MONTH || what > LOG_FATE) {
            throw new NoSuchElementException("a row of the log has no such fact");
        }
        if (ago < 0 || ago >= now.logged) {
            return NONE;
        }
        return now.log[what][now.logged - 1 - ago];
    }

    public int seed(int n) {
        int before = now.seed;
        now.seed = n;
        return before;
    }

    public boolean undo() {
        return past.bringBack(now);
    }

    public void image() {
        kept.copyFrom(now);
        keptLaw.copyFrom(standing);
        imaged = true;
    }

    public boolean back() {
        if (!imaged) {
            return false;
        }
        now.copyFrom(kept);
        standing.copyFrom(keptLaw);
        past.forget();
        return true;
    }

    public int count(int what) {
        switch (what) {
            case 0:
                return now.size;
            case 1:
                return now.texts;
            case 2:
                return standing.lines;
            case 3:
                return now.month;
            case 4:
                return now.things[MEANT][NOTHING];
            case 5:
                return now.allWeights() - now.things[MEANT][NOTHING];
            case 6:
                return now.allFate();
            case 7:
                return now.allShut();
            case 8:
                return now.logged;
            case 9:
                return past.size;
            default:
                return NONE;
        }
    }

    private void needChild(int child) {
        if (child < 0 || child >= now.size) {
            throw new IndexOutOfBoundsException("there is no such child");
        }
    }

    private void needTwo(int child, int other) {
        needChild(child);
        needChild(other);
        if (child == other) {
            throw new IllegalArgumentException("both are one");
        }
    }

    private static void needThing(int thing) {
        if (thing < 0 || thing >= THINGS) {
            throw new IndexOutOfBoundsException("there is no such thing");
        }
    }

    private static void needAhead(int n) {
        if (n < 0 || n > MOST_AHEAD) {
            throw new IllegalArgumentException("months ahead are 0 to 100");
        }
    }

    private boolean takeFeels() {
        return tape.takeRows(2, 10);
    }

    private void needFeels() {
        if (!takeFeels()) {
            throw new IllegalArgumentException("the tape does not tell feels");
        }
    }

    private void needLives() {
        if (!tape.takeRows(THINGS - 1, 255)) {
            throw new IllegalArgumentException("the tape does not tell things and fates");
        }
    }

    private int tellFact(int fact, int child, int value) {
        past.remember(now);
        int before = now.children[fact][child];
        now.children[fact][child] = value;
        return before;
    }

    private void goAhead(int n) {
        spare.copyFrom(now);
        for (int i = 0; i < n; i++) {
            spare.pass(standing, false);
        }
    }

    private void tryMonths(int n, int seed) {
        spare.copyFrom(now);
        spare.seed = seed;
        for (int i = 0; i < n; i++) {
            spare.pass(standing, true);
        }
    }

    /** The least child of a set; NONE of none. */
    private static int leastOf(int bits) {
        for (int c = 0; c < CHILDREN; c++) {
            if ((bits >> c & 1) != 0) {
                return c;
            }
        }
        return NONE;
    }

    private static int restingChoices(int expected, int grip) {
        int bits = 0;
        for (int choice = 0; choice < 4; choice++) {
            // The family's choice is bit 1 of the number, the child's is bit 0.
            boolean familyRests = familyGain(choice, expected, grip) >= familyGain(choice ^ 2, expected, grip);
            boolean childRests = childGain(choice) >= childGain(choice ^ 1);
            if (familyRests && childRests) {
                bits |= 1 << choice;
            }
        }
        return bits;
    }

    private static int familyGain(int choice, int expected, int grip) {
        switch (choice) {
            case 0:
                return -grip;
            case 1:
                return expected;
            case 2:
                return 0;
            default:
                return expected / 2;
        }
    }

    private static int childGain(int choice) {
        switch (choice) {
            case 0:
                return 1;
            case 1:
                return -2;
            case 2:
                return 0;
            default:
                return 2;
        }
    }

    /** The bytes that were fed and not used up yet, and the rows of two bytes each that were told last. */
    private static final class Tape {
        private final int[] bytes = new int[TAPE_ROOM];
        private int length = 0;
        private int rows = 0;

        void put(int number) {
            for (int shift = 24; shift >= 0 && length < TAPE_ROOM; shift -= 8) {
                bytes[length] = (number >>> shift) & 255;
                length++;
            }
        }

        /** Uses the tape up: whether it tells rows within both bounds. */
        boolean takeRows(int mostLeft, int mostRight) {
            boolean told = length % 2 == 0 && length <= 2 * ROWS;
            int pairs = told ? length / 2 : 0;
            for (int i = 0; i < pairs; i++) {
                told = told && left(i) <= mostLeft && right(i) <= mostRight;
            }
            rows = told ? pairs : 0;
            length = 0;
            return told;
        }

        int left(int row) {
            return bytes[2 * row];
        }

        int right(int row) {
            return bytes[2 * row + 1];
        }
    }

    /** All that undoing and going back bring again, but for the law. */
    private static final class State {
        // The column of nothing has its weight, and 0 for all else.
        private final int[][] things = new int[THING_FACTS][THINGS + 1];
        private final int[][] children = new int[CHILD_FACTS][CHILDREN];
        // A child opens once, so of the 60 rows that may be kept no more than these are ever filled.
        private final int[][] log = new int[LOG_FACTS][CHILDREN];
        private int size = 0;
        private int logged = 0;
        private int month = 0;
        private int texts = 0;
        private int seed = 1;

        State() {
            for (int t = 0; t <= NOTHING; t++) {
                things[MEANT][t] = 1;
            }
        }

        void copyFrom(State other) {
            copyTable(other.things, things);
            copyTable(other.children, children);
            copyTable(other.log, log);
            size = other.size;
            logged = other.logged;
            month = other.month;
            texts = other.texts;
            seed = other.seed;
        }

        private static void copyTable(int[][] from, int[][] to) {
            for (int i = 0; i < from.length && i < to.length; i++) {
                System.arraycopy(from[i], 0, to[i], 0, Math.min(from[i].length, to[i].length));
            }
        }

        /** A child as at first, with this inside; there must be room for it. */
        int add(int inside) {
            if (size >= CHILDREN) {
                return NONE;
            }
            int child = size;
            size++;
            for (int fact = 0; fact < CHILD_FACTS; fact++) {
                children[fact][child] = 0;
            }
            children[INSIDE][child] = inside;
            children[SHUT][child] = ALL_SHUT;
            children[GRIP][child] = 5;
            children[WISH][child] = NONE;
            children[KEEPS][child] = NONE;
            children[KNOT][child] = NONE;
            return child;
        }

        private int draw() {
            seed = 1103515245 * seed + 12345;
            return (seed >>> 16) & 32767;
        }

        int drawThing() {
            int weights = allWeights();
            if (weights <= 0) {
                return NOTHING;
            }
            int drawn = draw() % weights;
            int soFar = 0;
            for (int t = 0; t < THINGS; t++) {
                soFar += things[MEANT][t];
                if (soFar > drawn) {
                    return t;
                }
            }
            return NOTHING;
        }

        /** A month goes by, by draws or as it is ahead without them: how many were opened in it. */
        int pass(Law law, boolean byDraws) {
            int opened = 0;
            for (int c = 0; c < size; c++) {
                if (children[OPENED][c] == 0 && losesLastFinger(c, law, byDraws)) {
                    opens(c, law);
                    opened++;
                }
            }
            month = Math.min(month + 1, MOST_MONTH);
            return opened;
        }

        private boolean losesLastFinger(int child, Law law, boolean byDraws) {
            children[AGE][child] = Math.min(children[AGE][child] + 1, MOST_AGE);
            // Drawn also for a child with a knot, as the draws of all behind it hang on that.
            int needed = byDraws ? draw() % 100 + 1 : LOOSE_AHEAD;
            if (children[KNOT][child] != NONE || law.loosens(this, child) < needed) {
                return false;
            }
            int fingers = children[SHUT][child];
            children[SHUT][child] = fingers & (fingers - 1);
            return children[SHUT][child] == 0;
        }

        private void opens(int child, Law law) {
            int inside = children[INSIDE][child];
            int fate = Math.min(children[FATE][child] + law.leads(this, child), MOST_FATE);
            children[FATE][child] = fate;
            children[KEEPS][child] = inside == NOTHING ? NONE : inside;
            children[OPENED][child] = 1;
            if (logged < CHILDREN) {
                log[LOG_MONTH][logged] = month;
                log[LOG_CHILD][logged] = child;
                log[LOG_INSIDE][logged] = inside;
                log[LOG_AGE][logged] = children[AGE][child];
                log[LOG_FATE][logged] = fate;
                logged++;
            }
        }

        boolean isMovable(int child, int finger) {
            if (children[OPENED][child] != 0) {
                return false;
            }
            int other = children[KNOT][child];
            return other == NONE || Knots.isMovable(children[SHUT][child], children[SHUT][other], finger);
        }

        void moveFinger(int child, int finger, Law law) {
            children[SHUT][child] ^= 1 << finger;
            if (children[SHUT][child] == 0) {
                untie(child);
                opens(child, law);
            }
        }

        void tie(int child, int other) {
            children[KNOT][child] = other;
            children[KNOT][other] = child;
        }

        void untie(int child) {
            int other = children[KNOT][child];
            if (other != NONE) {
                children[KNOT][other] = NONE;
                children[KNOT][child] = NONE;
            }
        }

        /** The fingers of both in a knot, those of the child of the greater number 5 bits higher; NONE without. */
        int pairOf(int child) {
            int other = children[KNOT][child];
            if (other == NONE) {
                return NONE;
            }
            return children[SHUT][Math.min(child, other)] | children[SHUT][Math.max(child, other)] << FINGERS;
        }

        int everyone() {
            return (1 << size) - 1;
        }

        int bitsOf(int fact, int value) {
            int bits = 0;
            for (int c = 0; c < size; c++) {
                if (children[fact][c] == value) {
                    bits |= 1 << c;
                }
            }
            return bits;
        }

        int howMany(int fact, int value) {
            return Integer.bitCount(bitsOf(fact, value));
        }

        int allWeights() {
            int sum = 0;
            for (int t = 0; t <= NOTHING; t++) {
                sum += things[MEANT][t];
            }
            return sum;
        }

        int allFate() {
            int sum = 0;
            for (int c = 0; c < size; c++) {
                sum += children[FATE][c];
            }
            return sum;
        }

        int allShut() {
            int sum = 0;
            for (int c = 0; c < size; c++) {
                sum += Integer.bitCount(children[SHUT][c]);
            }
            return sum;
        }

        int price(int thing) {
            return things[WORTH][thing] * howMany(WISH, thing) / (1 + howMany(KEEPS, thing));
        }

        int share(int child) {
            int fates = allFate();
            return fates > 0 ? children[FATE][child] * 100 / fates : 0;
        }

        /** The worth of what a child keeps; NONE, if that is nothing. */
        int worthKept(int child) {
            int thing = children[KEEPS][child];
            return thing == NONE ? NONE : things[WORTH][thing];
        }

        int latestRowOf(int child) {
            for (int row = logged - 1; row >= 0; row--) {
                if (log[LOG_CHILD][row] == child) {
                    return row;
                }
            }
            return NONE;
        }
    }

    /** States ahead of the latest acts. */
    private static final class Past {
        private final State[] states = new State[REMEMBERED];
        private int start = 0;
        private int size = 0;

        Past() {
            for (int i = 0; i < REMEMBERED; i++) {
                states[i] = new State();
            }
        }

        void remember(State state) {
            states[(start + size) % REMEMBERED].copyFrom(state);
            if (size < REMEMBERED) {
                size++;
            } else {
                start = (start + 1) % REMEMBERED;
            }
        }

        boolean bringBack(State state) {
            if (size == 0) {
                return false;
            }
            size--;
            state.copyFrom(states[(start + size) % REMEMBERED]);
            return true;
        }

        void forget() {
            size = 0;
        }
    }

    /** The law: the conditions of its lines are codes as in a text, but each join behind what it joins. */
    private static final class Law {
        private static final int PARTS = Text.NOTHING_WORD + 1 - Text.WORDS;
        // Each of 7 levels keeps 2 truths at most, and the innermost a sum, a sum begun and a part.
        private static final int STACK_ROOM = 32;

        private final boolean[] leading = new boolean[LAW_LINES];
        private final int[] amounts = new int[LAW_LINES];
        private final int[] ends = new int[LAW_LINES];
        private final int[] codes = new int[TAPE_ROOM];
        private final int[] parts = new int[PARTS];
        private final int[] stack = new int[STACK_ROOM];
        private int lines = NONE;
        private int length = 0;

        void copyFrom(Law other) {
            for (int i = 0; i < LAW_LINES; i++) {
                leading[i] = other.leading[i];
                amounts[i] = other.amounts[i];
                ends[i] = other.ends[i];
            }
            System.arraycopy(other.codes, 0, codes, 0, TAPE_ROOM);
            lines = other.lines;
            length = other.length;
        }

        void clear() {
            lines = 0;
            length = 0;
        }

        boolean put(int code) {
            if (length >= TAPE_ROOM) {
                return false;
            }
            codes[length] = code;
            length++;
            return true;
        }

        /** The codes since the line before are this line's condition; none: it always holds. */
        boolean endLine(boolean leads, int amount) {
            if (lines < 0 || lines >= LAW_LINES) {
                return false;
            }
            leading[lines] = leads;
            amounts[lines] = amount;
            ends[lines] = length;
            lines++;
            return true;
        }

        int loosens(State state, int child) {
            return Math.max(10 - 5 * state.children[GRIP][child] + sumOf(false, state, child), 0);
        }

        int leads(State state, int child) {
            return state.things[WORTH][state.children[INSIDE][child]] + sumOf(true, state, child);
        }

        private int sumOf(boolean leads, State state, int child) {
            if (lines <= 0) {
                return 0;
            }
            lookAt(state, child);
            int sum = 0;
            int from = 0;
            for (int i = 0; i < lines; i++) {
                if (leading[i] == leads && holds(from, ends[i])) {
                    sum += amounts[i];
                }
                from = ends[i];
            }
            return sum;
        }

        private void lookAt(State state, int child) {
            int inside = state.children[INSIDE][child];
            parts[Text.CHILD_WORD - Text.WORDS] = child;
            parts[Text.AGE_WORD - Text.WORDS] = state.children[AGE][child];
            parts[Text.GRIP_WORD - Text.WORDS] = state.children[GRIP][child];
            parts[Text.SIZE_WORD - Text.WORDS] = state.things[SIZE][inside];
            parts[Text.WARM_WORD - Text.WORDS] = state.things[WARM][inside];
            parts[Text.WORTH_WORD - Text.WORDS] = state.things[WORTH][inside];
            parts[Text.SHUT_WORD - Text.WORDS] = Integer.bitCount(state.children[SHUT][child]);
            parts[Text.MONTH_WORD - Text.WORDS] = state.month;
            parts[Text.KNOTTED_WORD - Text.WORDS] = state.children[KNOT][child] != NONE ? 1 : 0;
            parts[Text.WISHED_WORD - Text.WORDS] = state.children[WISH][child] == inside ? 1 : 0;
            parts[Text.NOTHING_WORD - Text.WORDS] = inside == NOTHING ? 1 : 0;
        }

        private boolean holds(int from, int end) {
            if (from == end) {
                return true;
            }
            int top = 0;
            for (int i = from; i < end; i++) {
                int code = codes[i];
                if (code <= Text.NOTHING_WORD) {
                    if (top >= STACK_ROOM) {
                        return false;
                    }
                    stack[top] = code < Text.WORDS ? code : parts[code - Text.WORDS];
                    top++;
                } else if (code == Text.NOT_WORD) {
                    if (top < 1) {
                        return false;
                    }
                    stack[top - 1] = 1 - stack[top - 1];
                } else {
                    if (top < 2) {
                        return false;
                    }
                    top--;
                    stack[top - 1] = joined(code, stack[top - 1], stack[top]);
                }
            }
            return top == 1 && stack[0] != 0;
        }

        private static int joined(int code, int left, int right) {
            switch (code) {
                case Text.PLUS:
                    return left + right;
                case Text.LESS:
                    return left < right ? 1 : 0;
                case Text.MORE:
                    return left > right ? 1 : 0;
                case Text.AND_WORD:
                    return left & right;
                default:
                    return left | right;
            }
        }
    }

    /** A text, told apart into codes; a reading that fails stops at what cannot stand there. */
    private abstract static class Text {
        // Numbers are their own codes, below WORDS.
        private static final int UNKNOWN = -1;
        private static final int END = -2;
        private static final int WORDS = 1000;
        private static final int LETTERS = 1100;
        private static final int SIGNS = 1200;

        // The parts of a sum come first, then the truths of a child: the law counts on that.
        private static final int CHILD_WORD = WORDS;
        private static final int AGE_WORD = WORDS + 1;
        private static final int GRIP_WORD = WORDS + 2;
        private static final int SIZE_WORD = WORDS + 3;
        private static final int WARM_WORD = WORDS + 4;
        private static final int WORTH_WORD = WORDS + 5;
        private static final int SHUT_WORD = WORDS + 6;
        private static final int MONTH_WORD = WORDS + 7;
        private static final int KNOTTED_WORD = WORDS + 8;
        private static final int WISHED_WORD = WORDS + 9;
        private static final int NOTHING_WORD = WORDS + 10;
        private static final int AND_WORD = WORDS + 11;
        private static final int OR_WORD = WORDS + 12;
        private static final int NOT_WORD = WORDS + 13;
        private static final int IF_WORD = WORDS + 14;
        private static final int LOOSEN_WORD = WORDS + 15;
        private static final int LEAD_WORD = WORDS + 16;
        private static final int THING_WORD = WORDS + 17;
        private static final int MEANT_WORD = WORDS + 18;
        private static final int WISH_WORD = WORDS + 19;
        private static final int KNOT_WORD = WORDS + 20;
        private static final int EMPTY_WORD = WORDS + 21;
        private static final int NONE_WORD = WORDS + 22;

        // The words above in their order, each in a field of so many signs.
        private static final int FIELD = 8;
        private static final String VOCABULARY =
                "child   age     grip    size    warm    worth   shut    month   knotted wished  nothing and     or      not     if      loosen  lead    thing   meant   wish    knot    empty   none    ";

        private static final int SEMICOLON = SIGNS + ';';
        private static final int LEFT = SIGNS + '(';
        private static final int RIGHT = SIGNS + ')';
        private static final int PLUS = SIGNS + '+';
        private static final int LESS = SIGNS + '<';
        private static final int MORE = SIGNS + '>';

        private final int[] codes = new int[TAPE_ROOM + 1];
        private final int[] starts = new int[TAPE_ROOM + 1];
        private int size = 0;
        private int at = 0;

        /** Reads one line; at a wrong one it stops, and is false. */
        abstract boolean readLine();

        /** The first wrong byte of the text on the tape; NONE, if it is right. */
        int read(Tape tape, int mostLines) {
            split(tape);
            if (code() == END) {
                return NONE;
            }
            for (int i = 0; i < mostLines; i++) {
                if (!readLine()) {
                    return starts[at];
                }
                if (code() == END) {
                    return NONE;
                }
                if (!take(SEMICOLON)) {
                    return starts[at];
                }
            }
            return starts[at];
        }

        int code() {
            return codes[at];
        }

        /** Goes on behind what stands here, but never behind the end. */
        void step() {
            if (at < size) {
                at++;
            }
        }

        boolean take(int code) {
            if (at >= size || codes[at] != code) {
                return false;
            }
            at++;
            return true;
        }

        /** The number that stands here, if it is at most this; NONE. */
        int number(int most) {
            int code = codes[at];
            return code >= 0 && code < WORDS && code <= most ? code : NONE;
        }

        /** The thing that the letter here names; NONE. */
        int letter() {
            int thing = codes[at] - LETTERS;
            return thing >= 0 && thing < THINGS ? thing : NONE;
        }

        private void split(Tape tape) {
            size = 0;
            at = 0;
            int from = 0;
            for (int i = 0; i < TAPE_ROOM && from < tape.length; i++) {
                if (tape.bytes[from] == ' ') {
                    from++;
                } else {
                    int to = endOf(tape, from);
                    codes[size] = codeOf(tape, from, to);
                    starts[size] = from;
                    size++;
                    from = to;
                }
            }
            codes[size] = END;
            starts[size] = tape.length;
        }

        private static int endOf(Tape tape, int from) {
            boolean word = isLetter(tape.bytes[from]);
            boolean number = isDigit(tape.bytes[from]);
            int to = from + 1;
            while (to < tape.length && (word && isLetter(tape.bytes[to]) || number && isDigit(tape.bytes[to]))) {
                to++;
            }
            return to;
        }

        private static int codeOf(Tape tape, int from, int to) {
            int sign = tape.bytes[from];
            if (isDigit(sign)) {
                return numberOf(tape, from, to);
            }
            if (!isLetter(sign)) {
                return SIGNS + sign;
            }
            if (to - from == 1) {
                return sign - 'a' < THINGS ? LETTERS + sign - 'a' : UNKNOWN;
            }
            return wordOf(tape, from, to);
        }

        private static boolean isLetter(int sign) {
            return sign >= 'a' && sign <= 'z';
        }

        private static boolean isDigit(int sign) {
            return sign >= '0' && sign <= '9';
        }

        private static int numberOf(Tape tape, int from, int to) {
            if (to - from > 3) {
                return UNKNOWN;
            }
            int number = 0;
            for (int i = from; i < to; i++) {
                number = 10 * number + tape.bytes[i] - '0';
            }
            return number;
        }

        private static int wordOf(Tape tape, int from, int to) {
            // A field ends with a blank at least, so a longer word is none of them.
            for (int field = 0; to - from < FIELD && field + FIELD <= VOCABULARY.length(); field += FIELD) {
                if (VOCABULARY.charAt(field + to - from) == ' ' && isField(tape, from, to, field)) {
                    return WORDS + field / FIELD;
                }
            }
            return UNKNOWN;
        }

        private static boolean isField(Tape tape, int from, int to, int field) {
            for (int i = from; i < to; i++) {
                if (tape.bytes[i] != VOCABULARY.charAt(field + i - from)) {
                    return false;
                }
            }
            return true;
        }
    }

    /** Reads a text of the parish into a state. */
    private static final class ParishText extends Text {
        private final State state;

        ParishText(State state) {
            this.state = state;
        }

        boolean readLine() {
            if (take(Text.THING_WORD)) {
                return readThing();
            }
            if (code() == Text.CHILD_WORD) {
                return state.size < CHILDREN && readChild();
            }
            if (take(Text.KNOT_WORD)) {
                return readKnot();
            }
            if (take(Text.EMPTY_WORD)) {
                return readNumber(state.things[MEANT], NOTHING, 9);
            }
            return take(Text.MONTH_WORD) && readMonth();
        }

        private boolean readThing() {
            int thing = letter();
            if (thing == NONE) {
                return false;
            }
            step();
            return take(Text.MEANT_WORD) && readNumber(state.things[MEANT], thing, 9)
                    && take(Text.SIZE_WORD) && readNumber(state.things[SIZE], thing, 9)
                    && take(Text.WARM_WORD) && readNumber(state.things[WARM], thing, 9)
                    && take(Text.WORTH_WORD) && readNumber(state.things[WORTH], thing, 99);
        }

        private boolean readChild() {
            step();
            int inside = code() == Text.NONE_WORD ? NOTHING : letter();
            if (inside == NONE) {
                return false;
            }
            step();
            int child = state.add(inside);
            if (take(Text.AGE_WORD) && !readNumber(state.children[AGE], child, MOST_AGE)) {
                return false;
            }
            if (take(Text.GRIP_WORD) && !readNumber(state.children[GRIP], child, 9)) {
                return false;
            }
            return !take(Text.WISH_WORD) || readWish(child);
        }

        private boolean readWish(int child) {
            int thing = letter();
            if (thing == NONE) {
                return false;
            }
            state.children[WISH][child] = thing;
            step();
            return true;
        }

        private boolean readKnot() {
            int one = number(state.size - 1);
            if (one == NONE) {
                return false;
            }
            step();
            int other = number(state.size - 1);
            if (other == NONE || other == one || !isFree(one) || !isFree(other)) {
                return false;
            }
            state.tie(one, other);
            step();
            return true;
        }

        private boolean isFree(int child) {
            return state.children[KNOT][child] == NONE && state.children[SHUT][child] == ALL_SHUT;
        }

        private boolean readMonth() {
            int month = number(MOST_MONTH_TOLD);
            if (month == NONE) {
                return false;
            }
            state.month = month;
            step();
            return true;
        }

        private boolean readNumber(int[] row, int index, int most) {
            int number = number(most);
            if (number == NONE || index < 0 || index >= row.length) {
                return false;
            }
            row[index] = number;
            step();
            return true;
        }
    }

    /** Reads the text of a law into a law, which must be clear. */
    private static final class LawText extends Text {
        private final Law law;

        LawText(Law law) {
            this.law = law;
        }

        boolean readLine() {
            int kind = code();
            if (!take(Text.LOOSEN_WORD) && !take(Text.GRIP_WORD) && !take(Text.LEAD_WORD)) {
                return false;
            }
            int amount = number(100);
            if (amount == NONE) {
                return false;
            }
            step();
            if (take(Text.IF_WORD) && !readCondition(0)) {
                return false;
            }
            return law.endLine(kind == Text.LEAD_WORD, kind == Text.GRIP_WORD ? -amount : amount);
        }

        private boolean readCondition(int depth) {
            for (int i = 0; i < TAPE_ROOM; i++) {
                if (!readAll(depth) || i > 0 && !law.put(Text.OR_WORD)) {
                    return false;
                }
                if (!take(Text.OR_WORD)) {
                    return true;
                }
            }
            return false;
        }

        private boolean readAll(int depth) {
            for (int i = 0; i < TAPE_ROOM; i++) {
                if (!readAtom(depth) || i > 0 && !law.put(Text.AND_WORD)) {
                    return false;
                }
                if (!take(Text.AND_WORD)) {
                    return true;
                }
            }
            return false;
        }

        private boolean readAtom(int depth) {
            int code = code();
            if (code == Text.NOT_WORD || code == Text.LEFT) {
                return depth < DEEPEST && readDeeper(depth + 1);
            }
            if (code >= Text.KNOTTED_WORD && code <= Text.NOTHING_WORD) {
                step();
                return law.put(code);
            }
            if (!readSum()) {
                return false;
            }
            int join = code();
            if (!take(Text.LESS) && !take(Text.MORE)) {
                return false;
            }
            return readSum() && law.put(join);
        }

        private boolean readDeeper(int depth) {
            if (take(Text.NOT_WORD)) {
                return readAtom(depth) && law.put(Text.NOT_WORD);
            }
            return take(Text.LEFT) && readCondition(depth) && take(Text.RIGHT);
        }

        private boolean readSum() {
            for (int i = 0; i < TAPE_ROOM; i++) {
                int code = code();
                if (code < 0 || code > Text.MONTH_WORD) {
                    return false;
                }
                if (!law.put(code) || i > 0 && !law.put(Text.PLUS)) {
                    return false;
                }
                step();
                if (!take(Text.PLUS)) {
                    return true;
                }
            }
            return false;
        }
    }

    /** Knots of two, as puzzles: a pair is the fingers of both, in 10 bits; a move turns the bit of its number. */
    private static final class Knots {
        private static final int PAIRS = 1024;
        private static final int MOVES = 2 * FINGERS;

        private final int[] distances = new int[PAIRS];
        private final int[] queue = new int[PAIRS];
        private boolean searched = false;

        static boolean isMovable(int mine, int others, int finger) {
            if (finger == 0) {
                return true;
            }
            int ahead = mine & ((1 << finger) - 1);
            return ahead == 1 << (finger - 1) && (others >> finger & 1) != 0;
        }

        private static boolean isMove(int pair, int move) {
            int low = pair & ALL_SHUT;
            int high = pair >> FINGERS;
            return move < FINGERS ? isMovable(low, high, move) : isMovable(high, low, move - FINGERS);
        }

        static int movesNow(int pair) {
            int bits = 0;
            for (int move = 0; move < MOVES; move++) {
                if (isMove(pair, move)) {
                    bits |= 1 << move;
                }
            }
            return bits;
        }

        int fewest(int pair) {
            search();
            return distances[pair & (PAIRS - 1)];
        }

        int leastFirst(int pair) {
            int far = fewest(pair);
            for (int move = 0; far > 0 && move < MOVES; move++) {
                if (isMove(pair, move) && fewest(pair ^ (1 << move)) == far - 1) {
                    return move;
                }
            }
            return NONE;
        }

        /** From all pairs in which one is out, backward: a move that can be made can be taken back. */
        private void search() {
            if (searched) {
                return;
            }
            searched = true;
            int filled = 0;
            for (int pair = 0; pair < PAIRS; pair++) {
                boolean out = (pair & ALL_SHUT) == 0 || pair >> FINGERS == 0;
                distances[pair] = out ? 0 : NONE;
                if (out) {
                    queue[filled] = pair;
                    filled++;
                }
            }
            for (int i = 0; i < filled && i < PAIRS; i++) {
                filled = reachFrom(queue[i], filled);
            }
        }

        private int reachFrom(int pair, int filled) {
            int end = filled;
            for (int move = 0; move < MOVES; move++) {
                int reached = pair ^ (1 << move);
                if (distances[reached] == NONE && isMove(pair, move) && end < PAIRS) {
                    distances[reached] = distances[pair] + 1;
                    queue[end] = reached;
                    end++;
                }
            }
            return end;
        }
    }

    /** What can be inside, by what was felt from without. */
    private static final class Feels {
        private static final int FELT = 3;

        private static int feltOf(State state, int what, int thing) {
            switch (what) {
                case 0:
                    return state.things[SIZE][thing];
                case 1:
                    return state.things[WARM][thing];
                default:
                    return state.things[WORTH][thing] / 10;
            }
        }

        static int fitting(State state, Tape tape) {
            int bits = 0;
            for (int t = 0; t <= NOTHING; t++) {
                if (state.things[MEANT][t] > 0 && fitsRows(state, tape, t)) {
                    bits |= 1 << t;
                }
            }
            return bits;
        }

        private static boolean fitsRows(State state, Tape tape, int thing) {
            for (int i = 0; i < tape.rows; i++) {
                if (Math.abs(feltOf(state, tape.left(i), thing) - tape.right(i)) > 1) {
                    return false;
                }
            }
            return true;
        }

        static int likeliest(State state, int fits) {
            int best = NONE;
            int most = 0;
            for (int t = 0; t <= NOTHING; t++) {
                int weight = weightIn(state, fits, t);
                if (weight > most) {
                    best = t;
                    most = weight;
                }
            }
            return best;
        }

        private static int weightIn(State state, int fits, int thing) {
            return (fits >> thing & 1) != 0 ? state.things[MEANT][thing] : 0;
        }

        private static int weightsOf(State state, int fits) {
            int sum = 0;
            for (int t = 0; t <= NOTHING; t++) {
                sum += weightIn(state, fits, t);
            }
            return sum;
        }

        static int oddsOf(State state, int fits, int thing) {
            int weights = weightsOf(state, fits);
            return weights > 0 ? weightIn(state, fits, thing) * IN_ALL / weights : 0;
        }

        static int expected(State state, int fits) {
            int weights = weightsOf(state, fits);
            int worths = 0;
            for (int t = 0; t <= NOTHING; t++) {
                worths += weightIn(state, fits, t) * state.things[WORTH][t];
            }
            return weights > 0 ? worths / weights : 0;
        }

        static int bestFeel(State state, int fits) {
            if (Integer.bitCount(fits) < 2) {
                return NONE;
            }
            int best = 0;
            for (int what = 1; what < FELT; what++) {
                if (greatestPart(state, fits, what) < greatestPart(state, fits, best)) {
                    best = what;
                }
            }
            return best;
        }

        private static int greatestPart(State state, int fits, int what) {
            int greatest = 0;
            for (int t = 0; t <= NOTHING; t++) {
                if ((fits >> t & 1) != 0) {
                    greatest = Math.max(greatest, partOf(state, fits, what, t));
                }
            }
            return greatest;
        }

        private static int partOf(State state, int fits, int what, int thing) {
            int alike = 0;
            for (int t = 0; t <= NOTHING; t++) {
                if ((fits >> t & 1) != 0 && feltOf(state, what, t) == feltOf(state, what, thing)) {
                    alike++;
                }
            }
            return alike;
        }
    }

    /** Who gives, trades and has what children keep. */
    private static final class Market {
        // Above each worth.
        private static final int WISHED = 100;

        private final int[] gifts = new int[CHILDREN];
        private final int[] gets = new int[CHILDREN];
        private final int[] rings = new int[CHILDREN];
        private final int[] points = new int[CHILDREN];

        /**
         * To whom each gives in the first of the best ways: how many.
         * Each keeper of a thing can give to each who wishes for it, so no choice costs a later one its gift.
         */
        int settleGifts(State state) {
            int given = 0;
            int taken = 0;
            for (int c = 0; c < state.size; c++) {
                gifts[c] = takerOf(state, c, taken);
                if (gifts[c] != NONE) {
                    taken |= 1 << gifts[c];
                    given++;
                }
            }
            return given;
        }

        private static int takerOf(State state, int child, int taken) {
            int thing = state.children[KEEPS][child];
            if (thing == NONE) {
                return NONE;
            }
            int wishers = state.bitsOf(WISH, thing) & ~taken;
            if ((wishers >> child & 1) != 0) {
                return child;
            }
            return leastOf(wishers);
        }

        /** Whose thing each gets, and how many are in its ring. */
        void settleTrade(State state) {
            for (int c = 0; c < CHILDREN; c++) {
                gets[c] = NONE;
                rings[c] = 0;
                points[c] = c;
            }
            int left = state.everyone() & ~state.bitsOf(KEEPS, NONE);
            for (int round = 0; round < CHILDREN && left != 0; round++) {
                pointAll(state, left);
                left &= ~closeRings(state, left);
            }
        }

        private void pointAll(State state, int left) {
            for (int c = 0; c < state.size; c++) {
                if ((left >> c & 1) != 0) {
                    points[c] = rathest(state, c, left);
                }
            }
        }

        private static int rathest(State state, int child, int left) {
            int best = child;
            for (int c = 0; c < state.size; c++) {
                if ((left >> c & 1) != 0 && likes(state, child, c) > likes(state, child, best)) {
                    best = c;
                }
            }
            return best;
        }

        /** How much a child likes what an owner keeps; NONE, if that is nothing. */
        private static int likes(State state, int child, int owner) {
            int thing = state.children[KEEPS][owner];
            return thing != NONE && thing == state.children[WISH][child] ? WISHED : state.worthKept(owner);
        }

        static boolean isBetter(State state, int child, int owner) {
            return state.children[KEEPS][child] != NONE && likes(state, child, owner) > likes(state, child, child);
        }

        private int closeRings(State state, int left) {
            int done = 0;
            for (int c = 0; c < state.size; c++) {
                int ring = (left >> c & 1) != 0 ? ringFrom(c) : 0;
                if (ring > 0) {
                    rings[c] = ring;
                    gets[c] = points[c];
                    done |= 1 << c;
                }
            }
            return done;
        }

        private int ringFrom(int child) {
            int at = child;
            for (int length = 1; length <= CHILDREN; length++) {
                at = points[at];
                if (at == child) {
                    return length;
                }
            }
            return 0;
        }

        /** Each child keeps one thing at most, so the least keeper of each thing makes the least of the fewest. */
        static int fewestWithAll(State state) {
            int bits = 0;
            for (int t = 0; t < THINGS; t++) {
                int keepers = state.bitsOf(KEEPS, t);
                bits |= keepers & -keepers;
            }
            return bits;
        }
    }

    /** The laws of leading that lives allow: a pair is 100 times its factor and what comes more. */
    private static final class Guesses {
        private static final int PAIRS = 1000;
        private static final int MORES = 100;

        private final boolean[] fits = new boolean[PAIRS];
        // The greatest fate is 99 times 9 and 99.
        private final int[] parts = new int[PAIRS];
        private int fitting = 0;

        void fitTo(State state, Tape tape) {
            fitting = 0;
            for (int pair = 0; pair < PAIRS; pair++) {
                fits[pair] = fitsRows(state, tape, pair);
                if (fits[pair]) {
                    fitting++;
                }
            }
        }

        private static int fateBy(State state, int pair, int thing) {
            return state.things[WORTH][thing] * (pair / MORES) + pair % MORES;
        }

        private static boolean fitsRows(State state, Tape tape, int pair) {
            for (int i = 0; i < tape.rows; i++) {
                if (fateBy(state, pair, tape.left(i)) != tape.right(i)) {
                    return false;
                }
            }
            return true;
        }

        int leastPair() {
            for (int pair = 0; pair < PAIRS; pair++) {
                if (fits[pair]) {
                    return pair;
                }
            }
            return NONE;
        }

        int bestThing(State state) {
            if (fitting < 2) {
                return NONE;
            }
            int best = NONE;
            int least = PAIRS + 1;
            for (int t = 0; t < THINGS; t++) {
                int greatest = greatestPart(state, t);
                if (greatest < least) {
                    best = t;
                    least = greatest;
                }
            }
            return best;
        }

        private int greatestPart(State state, int thing) {
            for (int i = 0; i < PAIRS; i++) {
                parts[i] = 0;
            }
            int greatest = 0;
            for (int pair = 0; pair < PAIRS; pair++) {
                int fate = fateBy(state, pair, thing);
                if (fits[pair] && fate < PAIRS) {
                    parts[fate]++;
                    greatest = Math.max(greatest, parts[fate]);
                }
            }
            return greatest;
        }
    }
}
