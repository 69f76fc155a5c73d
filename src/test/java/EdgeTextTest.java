import java.util.NoSuchElementException;

/** Promises 1 to 6, each edge that the document names by itself: a new object, the tape, texts and their faults. */
public final class EdgeTextTest {
    private static final String EIGHT = "child a;child b;child c;child d;child e;child f;child g;child h";
    private static final int BLANKS = 0x20202020;

    public static void main(String[] args) {
        newHasNobody();
        newThings();
        newSets();
        newHasNothingToGoBackTo();
        feeds();
        feedAbove400();
        feedHighestFirst();
        feedBehindTheTape();
        ends();
        endThatIsRefused();
        endKeepsTheFirst();
        emptyTexts();
        numbersOfThings();
        lettersOfThings();
        linesOfThings();
        linesOfChildren();
        agesAndGripsAndWishes();
        emptiesAndMonths();
        knots();
        knotsOfThoseThatAreNotShut();
        digits();
        words();
        blanks();
        semicolons();
        fourteenLines();
        eightChildren();
        twelveTexts();
        textsUseTheTapeUp();
        rightTextsForgetActs();
        wrongTextsForgetNothing();
        lawLines();
        lawNumbers();
        lawInPlaceOfTheOneBefore();
        lawConditions();
        lawDepth();
        lawUsesTheTapeUp();
        faults();
        Kit.close("EdgeTextTest");
    }

    private static void newHasNobody() {
        ShutFists x = new ShutFists();
        Kit.due("NONE", ShutFists.NONE, -1);
        Kit.due("no children", x.count(0), 0);
        Kit.due("no texts", x.count(1), 0);
        Kit.due("no law", x.count(2), -1);
        Kit.due("month", x.count(3), 0);
        Kit.due("empty", x.count(4), 1);
        Kit.due("meant", x.count(5), 8);
        Kit.due("fate", x.count(6), 0);
        Kit.due("fingers", x.count(7), 0);
        Kit.due("log", x.count(8), 0);
        Kit.due("acts", x.count(9), 0);
        Kit.due("seed", x.seed(1), 1);
        Kit.due("fault", x.fault(), -1);
        Kit.tapeHas("a new tape", x, 0);
        Kit.raises("no child", IndexOutOfBoundsException.class, () -> x.child(0, 0));
    }

    private static void newThings() {
        ShutFists x = new ShutFists();
        for (int t = 0; t < 8; t++) {
            Kit.due("meant of " + t, x.thing(t, 0), 1);
            for (int what = 1; what < 5; what++) {
                Kit.due("fact " + what + " of " + t, x.thing(t, what), 0);
            }
        }
        Kit.due("all can be inside", Kit.tape(x).feels(0), 511);
        Kit.due("missing", x.missing(), 255);
        Kit.due("nobody", x.nobody(), 0);
        Kit.due("nothing", x.nothing(1), 1111);
    }

    private static void newSets() {
        ShutFists x = new ShutFists();
        Kit.due("shut", x.shut(), 0);
        Kit.due("open", x.open(), 0);
        Kit.due("knotted", x.knotted(), 0);
        Kit.due("content", x.content(), 0);
        Kit.due("all", x.all(), 0);
        Kit.due("twins", x.twins(), 0);
        Kit.due("richest", x.richest(), -1);
        Kit.due("oldest", x.oldest(), -1);
        Kit.due("next", x.next(), -1);
        Kit.due("last", x.last(), -1);
        Kit.due("keep", x.keep(100), 0);
        Kit.due("fates", x.fates(100), 0);
        Kit.due("gives", x.gives(-1), 0);
        Kit.due("trial", x.trial(100, false), 0);
        Kit.due("trial", x.trial(100, true), 0);
        Kit.due("span", x.span(100, false), 0);
        Kit.due("span", x.span(100, true), 0);
        Kit.due("log", x.log(0, 0), -1);
        Kit.due("months without children", x.months(120), 0);
        Kit.due("they go by", x.count(3), 120);
    }

    private static void newHasNothingToGoBackTo() {
        ShutFists x = new ShutFists();
        Kit.due("undo", x.undo(), false);
        Kit.due("back", x.back(), false);
        Kit.same("nothing happens", Kit.seen(x), Kit.seen(new ShutFists()));
    }

    private static void feeds() {
        ShutFists x = new ShutFists();
        for (int i = 1; i <= 20; i++) {
            Kit.due("feed " + i, x.feed(BLANKS, BLANKS, BLANKS, BLANKS, BLANKS), 20 * i);
            Kit.tapeHas("feed " + i, x, 20 * i);
        }
    }

    private static void feedAbove400() {
        for (int n = 380; n <= 400; n++) {
            ShutFists x = filled("month 7");
            x.end(n);
            Kit.due("feed behind " + n, x.feed(-1, -1, -1, -1, -1), n == 380 ? 400 : -1);
            Kit.tapeHas("feed behind " + n, x, n == 380 ? 400 : n);
            x.end(n);
            Kit.due("none came", x.parish(), 1);
            Kit.due("the bytes ahead are as they were", x.count(3), 7);
        }
    }

    /** A tape of 400 bytes, this text ahead and blanks behind. */
    private static ShutFists filled(String text) {
        return Kit.text(new ShutFists(), text + " ".repeat(400 - text.length()));
    }

    private static void feedHighestFirst() {
        ShutFists x = new ShutFists();
        // "empty 2 ; month  345"
        x.feed(0x656d7074, 0x79203220, 0x3b206d6f, 0x6e746820, 0x20333435);
        Kit.due("parish", x.parish(), 1);
        Kit.due("the first numbers", x.count(4), 2);
        Kit.due("the last number", x.count(3), 345);
        for (int i = 0; i < 20; i++) {
            int[] numbers = {BLANKS, BLANKS, BLANKS, BLANKS, BLANKS};
            numbers[i / 4] ^= 0xdf << 24 - i % 4 * 8;
            ShutFists y = new ShutFists();
            y.feed(numbers[0], numbers[1], numbers[2], numbers[3], numbers[4]);
            Kit.raises("a byte 255", IllegalArgumentException.class, y::parish);
            Kit.due("where it is", y.fault(), i);
        }
    }

    private static void feedBehindTheTape() {
        ShutFists x = Kit.text(new ShutFists(), "month 12345");
        x.end(8);
        Kit.due("feed", x.feed(0x33202020, BLANKS, BLANKS, BLANKS, BLANKS), 28);
        x.parish();
        Kit.due("behind the first 8 bytes", x.count(3), 123);
        Kit.due("a tape used up begins anew", x.feed(BLANKS, BLANKS, BLANKS, BLANKS, BLANKS), 20);
    }

    private static void ends() {
        ShutFists x = new ShutFists();
        Kit.due("end of an empty tape", x.end(0), true);
        x.feed(BLANKS, BLANKS, BLANKS, BLANKS, BLANKS);
        Kit.due("end of all", x.end(20), true);
        Kit.due("end of less", x.end(19), true);
        Kit.due("what was cut is gone", x.end(20), false);
        Kit.due("end of none", x.end(0), true);
        Kit.due("all is gone", x.end(1), false);
    }

    private static void endThatIsRefused() {
        for (int n : new int[] {-1, 21, 400, 401, Integer.MIN_VALUE, Integer.MAX_VALUE}) {
            ShutFists x = Kit.text(new ShutFists(), "month 7             ");
            Kit.due("end " + n, x.end(n), false);
            Kit.tapeHas("end " + n, x, 20);
            x.parish();
            Kit.due("its bytes are as they were", x.count(3), 7);
        }
    }

    private static void endKeepsTheFirst() {
        ShutFists x = Kit.text(new ShutFists(), "month 7;x");
        x.end(7);
        x.parish();
        Kit.due("the first bytes alone", x.count(3), 7);
    }

    private static void emptyTexts() {
        ShutFists x = new ShutFists();
        Kit.due("a parish of no line", x.parish(), 1);
        Kit.due("no fault", x.fault(), -1);
        Kit.due("blanks alone", Kit.text(x, " ").parish(), 2);
        Kit.due("400 blanks", Kit.text(x, " ".repeat(400)).parish(), 3);
        Kit.due("texts", x.count(1), 3);
        Kit.due("a law of no line", x.law(), 0);
        Kit.due("lines", x.count(2), 0);
        Kit.due("a law of blanks alone", Kit.text(x, " ".repeat(400)).law(), 0);
        Kit.due("no fault", x.fault(), -1);
        Kit.due("children", x.count(0), 0);
    }

    /** A parish in which each thing can be seen to change. */
    private static ShutFists base() {
        ShutFists x = Kit.parish("child a grip 3;child b wish c;child c;child d;knot 1 2;month 5;empty 3");
        Kit.law(x, "loosen 40;lead 7");
        x.grip(0, 1);
        Kit.openFist(x, 3);
        return x;
    }

    private static void wrongParish(String text, int fault) {
        ShutFists x = base();
        Kit.wrongParish(x, text, fault);
        Kit.tapeHas("used up by '" + text + "'", x, 0);
        Kit.same("of '" + text + "' nothing stays", Kit.seen(x), Kit.seen(base()));
    }

    private static void wrongLaw(String text, int fault) {
        ShutFists x = base();
        Kit.wrongLaw(x, text, fault);
        Kit.tapeHas("used up by '" + text + "'", x, 0);
        Kit.same("of '" + text + "' nothing stays", Kit.seen(x), Kit.seen(base()));
    }

    private static void numbersOfThings() {
        ShutFists x = Kit.parish("thing a meant 0 size 0 warm 0 worth 0;thing h meant 9 size 9 warm 9 worth 99");
        int[] most = {9, 9, 9, 99};
        for (int what = 0; what < 4; what++) {
            Kit.due("the least " + what, x.thing(0, what), 0);
            Kit.due("the most " + what, x.thing(7, what), most[what]);
            Kit.due("the others stay " + what, x.thing(1, what), what == 0 ? 1 : 0);
        }
        wrongParish("thing a meant 10 size 0 warm 0 worth 0", 14);
        wrongParish("thing a meant 0 size 10 warm 0 worth 0", 21);
        wrongParish("thing a meant 0 size 0 warm 10 worth 0", 28);
        wrongParish("thing a meant 0 size 0 warm 0 worth 100", 36);
        wrongParish("thing a meant 999 size 0 warm 0 worth 0", 14);
    }

    private static void lettersOfThings() {
        for (char letter = 'a'; letter <= 'h'; letter++) {
            ShutFists x = Kit.parish("thing " + letter + " meant 7 size 1 warm 2 worth 3");
            Kit.due("thing " + letter, x.thing(letter - 'a', 0), 7);
            Kit.due("child " + letter, Kit.parish("child " + letter).child(0, 1), letter - 'a');
            Kit.due("wish " + letter, Kit.parish("child a wish " + letter).child(0, 4), letter - 'a');
        }
        for (String letter : new String[] {"i", "z", "A", "aa", "1", "none", "`", ";", "\u00e1"}) {
            wrongParish("thing " + letter + " meant 7 size 1 warm 2 worth 3", 6);
            if (!letter.equals("none")) {
                wrongParish("child " + letter, 6);
            }
            wrongParish("child a wish " + letter, 13);
        }
    }

    private static void linesOfThings() {
        String line = "thing a meant 1 size 1 warm 1 worth 1";
        int[] parts = {5, 7, 13, 15, 20, 22, 27, 29, 35};
        for (int part : parts) {
            wrongParish(line.substring(0, part), part);
            wrongParish(line.substring(0, part) + "  ", part + 2);
            wrongParish(line.substring(0, part) + ";", part);
        }
        wrongParish(line + " meant 2", 38);
        wrongParish(line + " 2", 38);
        wrongParish("thing a warm 1", 8);
        wrongParish("thing a meant 1 warm 1 size 1 worth 1", 16);
    }

    private static void linesOfChildren() {
        ShutFists x = Kit.parish("child none;child h age 12 grip 7 wish b;child a grip 7 wish b;child a age 12 wish b;child a age 12 grip 7");
        int[][] due = {{0, 8, 31, 5, -1}, {12, 7, 31, 7, 1}, {0, 0, 31, 7, 1}, {12, 0, 31, 5, 1}, {12, 0, 31, 7, -1}};
        for (int c = 0; c < 5; c++) {
            for (int what = 0; what < 5; what++) {
                Kit.due("fact " + what + " of child " + c, x.child(c, what), due[c][what]);
            }
            Kit.due("keeps nothing", x.child(c, 5), -1);
            Kit.due("no fate", x.child(c, 6), 0);
            Kit.due("not opened", x.child(c, 7), 0);
            Kit.due("no knot", x.child(c, 8), -1);
        }
        wrongParish("child", 5);
        wrongParish("child nothing", 6);
        wrongParish("child non", 6);
        wrongParish("child a none", 8);
        wrongParish("child a grip 1 age 2", 15);
        wrongParish("child a wish b grip 1", 15);
        wrongParish("child a wish b wish b", 15);
        wrongParish("child a grip 1 grip 1", 15);
    }

    private static void agesAndGripsAndWishes() {
        ShutFists x = Kit.parish("child a age 0 grip 0;child a age 999 grip 9");
        Kit.due("the least age", x.child(0, 0), 0);
        Kit.due("the most age", x.child(1, 0), 999);
        Kit.due("the least grip", x.child(0, 3), 0);
        Kit.due("the most grip", x.child(1, 3), 9);
        wrongParish("child a age 1000", 12);
        wrongParish("child a age", 11);
        wrongParish("child a age b", 12);
        wrongParish("child a grip 10", 13);
        wrongParish("child a grip", 12);
        wrongParish("child a grip b", 13);
        wrongParish("child a wish", 12);
        wrongParish("child a wish 1", 13);
    }

    private static void emptiesAndMonths() {
        ShutFists x = Kit.parish("empty 0;month 999");
        Kit.due("the least empty", x.count(4), 0);
        Kit.due("the most month", x.count(3), 999);
        Kit.text(x, "empty 9;month 0").parish();
        Kit.due("the most empty", x.count(4), 9);
        Kit.due("the least month", x.count(3), 0);
        Kit.due("meant of all things is without it", x.count(5), 8);
        wrongParish("empty 10", 6);
        wrongParish("empty", 5);
        wrongParish("empty a", 6);
        wrongParish("month 1000", 6);
        wrongParish("month", 5);
        wrongParish("month a", 6);
    }

    private static void knots() {
        ShutFists x = Kit.parish("child a;child b;child c;knot 0 2");
        Kit.due("the one holds the other", x.child(0, 8), 2);
        Kit.due("the other holds the one", x.child(2, 8), 0);
        Kit.due("the third holds none", x.child(1, 8), -1);
        ShutFists y = Kit.parish(EIGHT + ";knot 7 6;knot 001 000");
        Kit.due("the greatest ones", y.child(7, 8) + 10 * y.child(6, 8), 76);
        Kit.due("numbers of 3 digits", y.child(0, 8) + 10 * y.child(1, 8), 1);
        // In the parish of base(): 0 is free, 1 and 2 have a knot, 3 is opened.
        wrongParish("knot 0 0", 7);
        wrongParish("knot 0 1", 7);
        wrongParish("knot 2 0", 7);
        wrongParish("knot 1 2", 7);
        wrongParish("knot 0 3", 7);
        wrongParish("knot 3 0", 7);
        wrongParish("knot 4 0", 5);
        wrongParish("knot 0 4", 7);
        wrongParish("knot 8 0", 5);
        wrongParish("knot 0 999", 7);
        wrongParish("knot 0;child a", 6);
        wrongParish("knot 0 4;child a", 7);
        wrongParish("knot", 4);
        wrongParish("knot 0", 6);
        wrongParish("knot a b", 5);
        wrongParish("child a;child b;knot 4 5;knot 5 0", 32);
        Kit.wrongParish(new ShutFists(), "knot 0 0", 5);
    }

    private static void knotsOfThoseThatAreNotShut() {
        for (int finger = 0; finger < 5; finger++) {
            ShutFists x = Kit.parish("child a;child b");
            x.move(1, finger);
            Kit.wrongParish(x, "knot 0 1", 7);
            Kit.wrongParish(x, "knot 1 0", 7);
            x.move(1, finger);
            Kit.text(x, "knot 1 0").parish();
            Kit.due("shut in all fingers again", x.knotted(), 3);
        }
        ShutFists cut = Kit.parish("child a;child b;child c;knot 0 1");
        cut.cut(0);
        Kit.text(cut, "knot 0 2").parish();
        Kit.due("behind a cut", cut.knotted(), 5);
    }

    private static void digits() {
        ShutFists x = Kit.parish("child a age 007;child b age 07 grip 009;thing a meant 003 size 01 warm 000 worth 099;empty 005;month 010");
        Kit.due("7", x.child(0, 0) + 10 * x.child(1, 0), 77);
        Kit.due("grip 9", x.child(1, 3), 9);
        Kit.due("worth 99", x.thing(0, 3), 99);
        Kit.due("month 10", x.count(3), 10);
        wrongParish("child a age 0007", 12);
        wrongParish("child a grip 0009", 13);
        wrongParish("thing a meant 0003 size 1 warm 0 worth 9", 14);
        wrongParish("thing a meant 3 size 1 warm 0 worth 0099", 36);
        wrongParish("empty 0005", 6);
        wrongParish("month 0010", 6);
        wrongParish("month 1 0", 8);
        wrongParish("month -1", 6);
        wrongParish("month +1", 6);
        wrongParish("month 4294967297", 6);
    }

    private static void words() {
        wrongParish("childa", 0);
        wrongParish("chil d a", 0);
        wrongParish("children a", 0);
        wrongParish("things a", 0);
        wrongParish("thin", 0);
        wrongParish("a", 0);
        wrongParish("7", 0);
        wrongParish("(", 0);
        wrongParish("loosen 5", 0);
        wrongParish("grip 5", 0);
        wrongParish("lead 5", 0);
        wrongParish("thing a meants 1", 8);
        wrongParish("child a aged 3", 8);
        wrongParish("month 7x", 7);
        wrongParish("MONTH 7", 0);
        wrongParish("knotted 0 1", 0);
        Kit.due("a number ends a word", Kit.parish("month7;child a age8grip9wish b").count(3), 7);
    }

    private static void blanks() {
        ShutFists x = Kit.parish("  month   7  ;  child   a   wish   b  ");
        Kit.due("month", x.count(3), 7);
        Kit.due("wish", x.child(0, 4), 1);
        for (int sign : new int[] {0, 9, 10, 13, 31, 33, 127, 128, 160, 255}) {
            wrongParish("month" + (char) sign + "7", 5);
            wrongParish((char) sign + "month 7", 0);
            wrongParish("month 7" + (char) sign, 7);
            wrongLaw("lead" + (char) sign + "7", 4);
        }
        wrongParish("mon th 7", 0);
        wrongParish("   ;month 7", 3);
    }

    private static void semicolons() {
        wrongParish(";", 0);
        wrongParish("month 7;", 8);
        wrongParish("month 7;   ", 11);
        wrongParish("month 7;;month 8", 8);
        wrongParish("month 7 month 8", 8);
        wrongParish("month 7:month 8", 7);
        wrongLaw(";", 0);
        wrongLaw("lead 7;", 7);
        wrongLaw("lead 7; ", 8);
        wrongLaw("lead 7;;lead 7", 7);
        wrongLaw("lead 7 lead 7", 7);
    }

    private static void fourteenLines() {
        String fourteen = "empty1;".repeat(13) + "empty2";
        Kit.due("14 lines", Kit.parish(fourteen).count(4), 2);
        wrongParish(fourteen + ";empty 3", 98);
        wrongParish(fourteen + ";  empty 3;x", 100);
        wrongParish(fourteen + ";empty 10", 98);
        wrongParish(fourteen + ";empty", 98);
        wrongParish(fourteen + ";", 98);
        ShutFists x = Kit.parish(fourteen);
        Kit.due("14 more in another text", Kit.text(x, fourteen).parish(), 2);
    }

    private static void eightChildren() {
        Kit.due("8 children", Kit.parish(EIGHT).count(0), 8);
        Kit.wrongParish(new ShutFists(), EIGHT + ";  child a", 66);
        Kit.wrongParish(new ShutFists(), EIGHT + ";child i", 64);
        Kit.wrongParish(new ShutFists(), EIGHT + ";child", 64);
        ShutFists full = Kit.parish(EIGHT);
        Kit.wrongParish(full, "month 3;child a", 8);
        Kit.due("nothing of it stays", full.count(3), 0);
        Kit.due("other lines may come", Kit.text(full, "month 3").parish(), 2);
        ShutFists born = new ShutFists();
        for (int i = 0; i < 8; i++) {
            born.birth();
        }
        Kit.wrongParish(born, "child a", 0);
        ShutFists one = Kit.parish("child a");
        Kit.wrongParish(one, EIGHT, 56);
        Kit.due("nothing of it stays", one.count(0), 1);
    }

    private static ShutFists twelve() {
        ShutFists x = new ShutFists();
        for (int i = 0; i < 11; i++) {
            x.parish();
        }
        Kit.text(x, "child a;month 4").parish();
        x.grip(0, 2);
        return x;
    }

    private static void twelveTexts() {
        ShutFists x = new ShutFists();
        for (int i = 1; i <= 12; i++) {
            Kit.due("text " + i, x.parish(), i);
        }
        Kit.refused("a 13th text", UnsupportedOperationException.class, EdgeTextTest::twelve,
                y -> Kit.text(y, "child b;month 9").parish());
        Kit.refused("a 13th text of no line", UnsupportedOperationException.class, EdgeTextTest::twelve, ShutFists::parish);
        Kit.refused("a 13th text that is wrong", IllegalArgumentException.class, EdgeTextTest::twelve,
                y -> Kit.text(y, "child").parish());
        ShutFists used = Kit.text(twelve(), "month 9");
        Kit.raises("a 13th text", UnsupportedOperationException.class, used::parish);
        Kit.tapeHas("used up by a 13th text", used, 0);
        Kit.due("wrong texts do not count", wrongFirst().parish(), 1);
        ShutFists laws = new ShutFists();
        for (int i = 0; i < 13; i++) {
            Kit.due("laws are not counted", laws.law(), 0);
        }
        Kit.due("a law behind 12 texts", Kit.text(twelve(), "lead 3").law(), 1);
    }

    private static ShutFists wrongFirst() {
        ShutFists x = new ShutFists();
        for (int i = 0; i < 13; i++) {
            Kit.wrongParish(x, "x", 0);
        }
        return x;
    }

    private static void textsUseTheTapeUp() {
        ShutFists x = Kit.text(new ShutFists(), "month 3");
        x.parish();
        Kit.tapeHas("used up by a right text", x, 0);
        Kit.due("a text of no line comes next", x.parish(), 2);
        Kit.due("the month stays", x.count(3), 3);
    }

    private static void rightTextsForgetActs() {
        ShutFists x = base();
        Kit.due("acts", x.count(9), 6);
        x.parish();
        Kit.due("none are remembered behind a parish", x.count(9), 0);
        Kit.due("undo", x.undo(), false);
        ShutFists y = base();
        y.law();
        Kit.due("none are remembered behind a law", y.count(9), 0);
        Kit.due("undo", y.undo(), false);
        y.grip(0, 7);
        Kit.due("acts behind it are", y.undo(), true);
        Kit.due("the latest one", y.child(0, 3), 1);
    }

    private static void wrongTextsForgetNothing() {
        ShutFists x = base();
        Kit.wrongParish(x, "x", 0);
        Kit.wrongLaw(x, "x", 0);
        Kit.due("acts are remembered behind wrong texts", x.count(9), 6);
        Kit.due("undo", x.undo(), true);
        Kit.due("undone", x.child(3, 7), 0);
        ShutFists y = twelve();
        Kit.raises("a 13th text", UnsupportedOperationException.class, y::parish);
        Kit.due("acts are remembered behind a refused text", y.undo(), true);
        Kit.due("undone", y.child(0, 3), 5);
    }

    private static void lawLines() {
        String twelve = "lead 1;".repeat(11) + "lead 2";
        ShutFists x = Kit.parish("child none");
        Kit.due("1 line", Kit.text(x, "lead 1").law(), 1);
        Kit.due("12 lines", Kit.text(x, twelve).law(), 12);
        Kit.due("lines", x.count(2), 12);
        Kit.due("all of them hold", x.child(0, 10), 13);
        wrongLaw(twelve + ";lead 3", 84);
        wrongLaw(twelve + ";  lead 3;x", 86);
        wrongLaw(twelve + ";lead 101", 84);
        wrongLaw(twelve + ";lead", 84);
        wrongLaw(twelve + ";", 84);
        wrongLaw("thing a meant 1 size 1 warm 1 worth 1", 0);
        wrongLaw("loose 3", 0);
        wrongLaw("loosenn 3", 0);
        wrongLaw("if wished", 0);
    }

    private static void lawNumbers() {
        ShutFists x = Kit.parish("child none grip 0");
        for (int n : new int[] {0, 1, 99, 100}) {
            Kit.law(x, "loosen " + n + ";lead " + n);
            Kit.due("loosens by " + n, x.child(0, 9), 10 + n);
            Kit.due("leads to " + n, x.child(0, 10), n);
            Kit.law(x, "loosen 100;loosen 100;grip " + n);
            Kit.due("grips by " + n, x.child(0, 9), 210 - n);
        }
        Kit.law(x, "lead 007");
        Kit.due("3 digits", x.child(0, 10), 7);
        for (String word : new String[] {"loosen ", "grip ", "lead "}) {
            int at = word.length();
            wrongLaw(word + "101", at);
            wrongLaw(word + "999", at);
            wrongLaw(word + "0001", at);
            wrongLaw(word + "a", at);
            wrongLaw(word, at);
            wrongLaw(word + "1 2", at + 2);
        }
    }

    private static void lawInPlaceOfTheOneBefore() {
        ShutFists x = Kit.parish("child none grip 0");
        Kit.law(x, "loosen 50;lead 30;lead 4 if nothing");
        Kit.law(x, "lead 2");
        Kit.due("lines", x.count(2), 1);
        Kit.due("loosens", x.child(0, 9), 10);
        Kit.due("leads", x.child(0, 10), 2);
        x.law();
        Kit.due("no line", x.count(2), 0);
        Kit.due("leads", x.child(0, 10), 0);
    }

    private static void lawConditions() {
        wrongLaw("lead 5 if", 9);
        wrongLaw("lead 5 if  ", 11);
        wrongLaw("lead 5 if;", 9);
        wrongLaw("lead 5 if if wished", 10);
        wrongLaw("lead 5 or wished", 7);
        wrongLaw("lead 5 if wished or", 19);
        wrongLaw("lead 5 if wished and", 20);
        wrongLaw("lead 5 if wished nothing", 17);
        wrongLaw("lead 5 if not", 13);
        wrongLaw("lead 5 if wished not", 17);
        wrongLaw("lead 5 if (wished", 17);
        wrongLaw("lead 5 if wished)", 16);
        wrongLaw("lead 5 if ()", 11);
        wrongLaw("lead 5 if 1000 > 1", 10);
        wrongLaw("lead 5 if 1 > 0001", 14);
        wrongLaw("lead 5 if 1", 11);
        wrongLaw("lead 5 if 1 >", 13);
        wrongLaw("lead 5 if 1 > > 1", 14);
        wrongLaw("lead 5 if 1 +", 13);
        wrongLaw("lead 5 if 1 + > 1", 14);
        wrongLaw("lead 5 if + 1 > 1", 10);
        wrongLaw("lead 5 if 1 = 1", 12);
        wrongLaw("lead 5 if 1 > 1 > 1", 16);
        wrongLaw("lead 5 if (1) > 1", 12);
        wrongLaw("lead 5 if fate > 1", 10);
        wrongLaw("lead 5 if a > 1", 10);
        wrongLaw("lead 5 if meant > 1", 10);
        wrongLaw("lead 5 if nothing > 1", 18);
        wrongLaw("lead 5 if 1 > knotted", 14);
        ShutFists x = Kit.parish("child none");
        Kit.law(x, "lead 5 if 999 > 998 and 0 < 001 and not 999 < 999 and not 5 > 5");
        Kit.due("the greatest number, and none is above itself", x.child(0, 10), 5);
    }

    private static void lawDepth() {
        ShutFists x = Kit.parish("child none");
        Kit.law(x, "lead 5 if not not not not not not nothing;lead 6 if ((((((nothing))))));lead 7 if not(not(not(nothing)))");
        Kit.due("6 deep", x.child(0, 10), 11);
        Kit.law(x, "lead 5 if ((((((nothing)))))) and ((((((nothing)))))) or not not not not not not wished");
        Kit.due("6 deep, time and again", x.child(0, 10), 5);
        Kit.law(x, "lead 5 if not(not(nothing and((wished or 1>0))))");
        Kit.due("6 deep of both", x.child(0, 10), 5);
        wrongLaw("lead 5 if not not not not not not not nothing", 34);
        wrongLaw("lead 5 if (((((((nothing)))))))", 16);
        wrongLaw("lead 5 if ((((((not nothing))))))", 16);
        wrongLaw("lead 5 if not not not not not not (nothing)", 34);
        wrongLaw("lead 5 if ((((((nothing and wished or (nothing)))))))", 38);
        wrongLaw("lead 5 if ((((((nothing)))))) and (((((((nothing)))))))", 40);
        wrongLaw("lead 5 if " + "(".repeat(390), 16);
        wrongLaw("lead 5 if " + "not ".repeat(97), 34);
    }

    private static void lawUsesTheTapeUp() {
        ShutFists x = Kit.text(new ShutFists(), "lead 3");
        x.law();
        Kit.tapeHas("used up by a right law", x, 0);
        ShutFists y = Kit.text(new ShutFists(), "lead");
        Kit.raises("a wrong law", IllegalArgumentException.class, y::law);
        Kit.tapeHas("used up by a wrong law", y, 0);
        Kit.due("no law", y.count(2), -1);
    }

    private static void faults() {
        ShutFists x = new ShutFists();
        Kit.due("ahead of any", x.fault(), -1);
        Kit.wrongParish(x, "month x", 6);
        Kit.due("told twice", x.fault(), 6);
        x.parish();
        Kit.due("of a right text there is none", x.fault(), -1);
        Kit.wrongLaw(x, "lead", 4);
        x.law();
        Kit.due("of a right law there is none", x.fault(), -1);
        Kit.wrongLaw(x, "lead 5 if 1>" + "1+".repeat(194), 400);
        faultsThatStay();
        ShutFists refused = twelve();
        Kit.wrongParish(refused, "month x", 6);
        Kit.raises("a 13th text", UnsupportedOperationException.class, refused::parish);
        Kit.due("a refused text was read, and is right", refused.fault(), -1);
    }

    /** What is read by other calls is no text. */
    private static void faultsThatStay() {
        ShutFists x = Kit.parish("child a");
        x.image();
        x.grip(0, 2);
        Kit.wrongLaw(x, "lead 3;x", 7);
        Kit.raises("no feels", IllegalArgumentException.class, () -> Kit.tape(x, 9).feels(0));
        Kit.raises("no such what", NoSuchElementException.class, () -> Kit.tape(x, 0, 1).feels(3));
        Kit.tape(x, 0, 1).feels(0);
        Kit.raises("no lives", IllegalArgumentException.class, () -> Kit.tape(x, 9).rules(true));
        Kit.tape(x, 0, 1).tell();
        Kit.due("undo", x.undo(), true);
        Kit.due("the fault stays when undone", x.fault(), 7);
        Kit.due("back", x.back(), true);
        Kit.due("the fault stays when gone back", x.fault(), 7);
        Kit.due("a seed", x.seed(4), 1);
        x.feed(1, 2, 3, 4, 5);
        Kit.due("the fault stays when fed", x.fault(), 7);
    }
}
