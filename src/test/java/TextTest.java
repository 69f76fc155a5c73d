/** Promises 1 to 6: a new object, the tape, the texts and their faults. */
public final class TextTest {
    private static final String EIGHT = "child a;child b;child c;child d;child e;child f;child g;child h";

    public static void main(String[] args) {
        newObject();
        tape();
        parishTexts();
        parishFaults();
        knotLines();
        manyTexts();
        lawTexts();
        lawFaults();
        lawDepth();
        wrongTextsChangeNothing();
        Kit.close("TextTest");
    }

    private static void newObject() {
        ShutFists x = new ShutFists();
        int[] counts = {0, 0, -1, 0, 1, 8, 0, 0, 0, 0};
        for (int what = 0; what < counts.length; what++) {
            Kit.due("new count " + what, x.count(what), counts[what]);
        }
        for (int t = 0; t < 8; t++) {
            Kit.due("new meant", x.thing(t, 0), 1);
            for (int what = 1; what < 5; what++) {
                Kit.due("new thing", x.thing(t, what), 0);
            }
        }
        Kit.due("fault ahead of any", x.fault(), -1);
        Kit.raises("child of none", IndexOutOfBoundsException.class, () -> x.child(0, 0));
        Kit.due("seed", x.seed(1), 1);
        Kit.due("undo", x.undo(), false);
        Kit.due("back", x.back(), false);
        Kit.due("next", x.next(), -1);
        Kit.due("last", x.last(), -1);
        Kit.due("oldest", x.oldest(), -1);
        Kit.due("sets", x.shut() | x.open() | x.knotted() | x.content() | x.all(), 0);
        Kit.due("span", x.span(5, true), 0);
    }

    private static void tape() {
        ShutFists x = new ShutFists();
        Kit.due("end of more", x.end(1), false);
        Kit.due("end below 0", x.end(-1), false);
        Kit.due("end of none", x.end(0), true);
        Kit.due("feed", x.feed(0x6d6f6e74, 0x68203720, 0x20202020, 0x20202020, 0x20202020), 20);
        Kit.due("end of all", x.end(20), true);
        Kit.due("parish", x.parish(), 1);
        Kit.due("the highest byte first", x.count(3), 7);
        for (int i = 1; i <= 20; i++) {
            Kit.due("feed", x.feed(0x20202020, 0x20202020, 0x20202020, 0x20202020, 0x20202020), 20 * i);
        }
        Kit.due("feed above 400", x.feed(0, 0, 0, 0, 0), -1);
        Kit.due("end of more", x.end(401), false);
        Kit.due("end", x.end(381), true);
        Kit.due("feed above 400", x.feed(0, 0, 0, 0, 0), -1);
        Kit.due("end", x.end(380), true);
        Kit.due("feed up to 400", x.feed(0x20202020, 0x20202020, 0x20202020, 0x20202020, 0x20202020), 400);
        Kit.due("blanks alone", x.parish(), 2);
        Kit.due("used up", x.end(1), false);
        Kit.due("feed", x.feed(-1, -1, -1, -1, -1), 20);
        Kit.raises("bytes 255", IllegalArgumentException.class, x::parish);
        Kit.due("fault", x.fault(), 0);
        Kit.due("used up by a wrong text", x.end(1), false);
    }

    private static void parishTexts() {
        ShutFists x = Kit.parish("thing h meant 9 size 8 warm 7 worth 99;child h age 999 grip 0 wish a;child none;month 999");
        int[] thing = {9, 8, 7, 99, 0};
        for (int what = 0; what < 5; what++) {
            Kit.due("thing h", x.thing(7, what), thing[what]);
        }
        int[] one = {999, 7, 31, 0, 0, -1, 0, 0, -1, 10, 99, 0};
        int[] two = {0, 8, 31, 5, -1, -1, 0, 0, -1, 0, 0, 0};
        for (int what = 0; what < 12; what++) {
            Kit.due("child 0 " + what, x.child(0, what), one[what]);
            Kit.due("child 1 " + what, x.child(1, what), two[what]);
        }
        Kit.due("month", x.count(3), 999);
        Kit.text(x, "  empty0 ; child a grip 3;child b wish c;thing a meant1size2warm003worth04;child a age 12 wish h ");
        Kit.due("a text behind it", x.parish(), 2);
        Kit.due("empty", x.count(4), 0);
        Kit.due("children", x.count(0), 5);
        Kit.due("grip alone", x.child(2, 3), 3);
        Kit.due("wish alone", x.child(3, 4), 2);
        Kit.due("age", x.child(4, 0), 12);
        Kit.due("wish", x.child(4, 4), 7);
        Kit.due("warm", x.thing(0, 2), 3);
        Kit.due("worth", x.thing(0, 3), 4);
        Kit.due("h stays", x.thing(7, 3), 99);
        Kit.due("fault of a right text", x.fault(), -1);
        ShutFists full = Kit.parish("month 1;month 2;month 3;month 4;month 5;month 6;month 7;month 8;month 9;month 10;"
                + "month 11;month 12;month 13;month 14");
        Kit.due("14 lines", full.count(3), 14);
        Kit.due("8 children", Kit.parish(EIGHT).count(0), 8);
    }

    private static void parishFaults() {
        ShutFists x = new ShutFists();
        Kit.wrongParish(x, "thinga", 0);
        Kit.wrongParish(x, "Thing a", 0);
        Kit.wrongParish(x, " 7", 1);
        Kit.wrongParish(x, ";", 0);
        Kit.wrongParish(x, "thing A", 6);
        Kit.wrongParish(x, "thing a size 3", 8);
        Kit.wrongParish(x, "thing a meant", 13);
        Kit.wrongParish(x, "thing a meant  ", 15);
        Kit.wrongParish(x, "thing a meant b", 14);
        Kit.wrongParish(x, "thing a meant 0001", 14);
        Kit.wrongParish(x, "thing a meant 1 size 1 warm 1", 29);
        Kit.wrongParish(x, "thing a meant 1 size 1 warm 1 worth 1 month 3", 38);
        Kit.wrongParish(x, "child a wish b age 3", 15);
        Kit.wrongParish(x, "child a grip 3 age 3", 15);
        Kit.wrongParish(x, "child a age 3 age 3", 14);
        Kit.wrongParish(x, "child a age", 11);
        Kit.wrongParish(x, "child a wish none", 13);
        Kit.wrongParish(x, "child a b", 8);
        Kit.wrongParish(x, "child 3", 6);
        Kit.wrongParish(x, "month 1,month 2", 7);
        Kit.wrongParish(x, "month 1\tmonth 2", 7);
        Kit.wrongParish(x, "month 1 ; ", 10);
        Kit.wrongParish(x, "month 1;;month 2", 8);
        Kit.wrongParish(x, "empty", 5);
        Kit.wrongParish(x, "empty 99", 6);
        Kit.wrongParish(x, "loosen 5", 0);
        Kit.wrongParish(x, EIGHT + "; child a", 65);
        Kit.wrongParish(x, EIGHT + ";child", 64);
        Kit.wrongParish(x, EIGHT + ";knot 0 8", 71);
        Kit.wrongParish(x, EIGHT + ";knot 8 0", 69);
        Kit.wrongParish(x, "(".repeat(400), 0);
        Kit.wrongParish(x, "month1;".repeat(14), 98);
        Kit.wrongParish(x, "month1;".repeat(14) + " x", 99);
    }

    private static void knotLines() {
        ShutFists x = Kit.parish("child a;child b;child c;child d;knot 1 0");
        Kit.due("knot", x.child(0, 8), 1);
        Kit.due("knot", x.child(1, 8), 0);
        Kit.wrongParish(x, "knot 0 2", 7);
        Kit.wrongParish(x, "knot 2 1", 7);
        Kit.wrongParish(x, "knot 0", 6);
        Kit.wrongParish(x, "knot 0 9", 7);
        Kit.wrongParish(x, "knot 2 2", 7);
        Kit.wrongParish(x, "knot 4 2", 5);
        Kit.wrongParish(x, "knot 2 4", 7);
        Kit.wrongParish(x, "knot 2 a", 7);
        Kit.wrongParish(x, "knot 0002 3", 5);
        x.move(2, 3);
        Kit.wrongParish(x, "knot 2 3", 7);
        Kit.wrongParish(x, "knot 3 2", 7);
        Kit.text(x, "child e;knot 3 4").parish();
        Kit.due("a child that there is by then", x.child(4, 8), 3);
        Kit.due("knotted", x.knotted(), 27);
        Kit.openFist(x, 2);
        Kit.text(x, "child f").parish();
        Kit.wrongParish(x, "knot 5 2", 7);
    }

    private static void manyTexts() {
        ShutFists x = new ShutFists();
        for (int i = 1; i <= 12; i++) {
            Kit.due("texts", Kit.text(x, "month " + i).parish(), i);
        }
        Kit.raises("a 13th text", UnsupportedOperationException.class, () -> Kit.text(x, "month 99").parish());
        Kit.due("fault of a refused one", x.fault(), -1);
        Kit.due("used up", x.end(1), false);
        Kit.due("month", x.count(3), 12);
        Kit.due("texts", x.count(1), 12);
        Kit.wrongParish(x, "month x", 6);
        Kit.raises("an empty 13th one", UnsupportedOperationException.class, x::parish);
        Kit.due("fault of a refused one", x.fault(), -1);
    }

    private static void lawTexts() {
        ShutFists x = Kit.parish("thing b meant 1 size 3 warm 4 worth 50;child a age 7 grip 1;child b age 2 grip 0 wish b;"
                + "child none grip 0;child a;child a;knot 3 4;month 6");
        Kit.due("loosens", x.child(0, 9), 5);
        Kit.due("law", Kit.text(x, "loosen 30;grip 3;lead 7").law(), 3);
        Kit.due("lines", x.count(2), 3);
        Kit.due("loosens", x.child(0, 9), 32);
        Kit.due("leads", x.child(1, 10), 57);
        truth(x, "knotted", 24);
        truth(x, "wished", 2);
        truth(x, "nothing", 4);
        truth(x, "age > 2", 1);
        truth(x, "age < 2", 28);
        truth(x, "child > 2", 24);
        truth(x, "grip < 1", 6);
        truth(x, "size + warm > 6", 2);
        truth(x, "size + warm > 7", 0);
        truth(x, "worth > 49", 2);
        truth(x, "shut > 4", 31);
        truth(x, "month + 1 < 8 and month > 5", 31);
        truth(x, "5 < 005", 0);
        truth(x, "not nothing", 27);
        truth(x, "not not nothing", 4);
        truth(x, "not nothing and knotted", 24);
        truth(x, "not (nothing and knotted)", 31);
        truth(x, "wished or nothing and knotted", 2);
        truth(x, "(wished or nothing) and not knotted", 6);
        truth(x, "nothing and wished or knotted", 24);
        truth(x, "nothing or wished or knotted", 30);
        truth(x, "child+child+child>8", 24);
        truth(x, "((((((wished))))))", 2);
        x.move(0, 2);
        truth(x, "shut < 5", 1);
        Kit.due("an empty law", Kit.text(x, "").law(), 0);
        Kit.due("lines", x.count(2), 0);
        Kit.due("blanks alone", Kit.text(x, "   ").law(), 0);
        Kit.law(x, "loosen 100;loosen 100;grip 100 if age > 6");
        Kit.due("loosens", x.child(1, 9), 210);
        Kit.due("loosens", x.child(0, 9), 105);
        Kit.law(x, "grip 9");
        Kit.due("0 at least", x.child(0, 9), 0);
        Kit.due("0 to 1", x.child(1, 9), 1);
    }

    /** Of which children a condition holds. */
    private static void truth(ShutFists x, String condition, int bits) {
        Kit.law(x, "lead 100;lead 100 if " + condition);
        int held = 0;
        for (int c = 0; c < x.count(0); c++) {
            if (x.child(c, 10) >= 200) {
                held |= 1 << c;
            }
        }
        Kit.due(condition, held, bits);
    }

    private static void lawFaults() {
        ShutFists x = new ShutFists();
        Kit.wrongLaw(x, "loosen if wished", 7);
        Kit.wrongLaw(x, "loosen 1000", 7);
        Kit.wrongLaw(x, "loosens 10", 0);
        Kit.wrongLaw(x, "month 3", 0);
        Kit.wrongLaw(x, "grip 3 wished", 7);
        Kit.wrongLaw(x, "grip 3 iff wished", 7);
        Kit.wrongLaw(x, "grip 3 if ", 10);
        Kit.wrongLaw(x, "grip 3 if hidden", 10);
        Kit.wrongLaw(x, "grip 3 if age", 13);
        Kit.wrongLaw(x, "grip 3 if age = 3", 14);
        Kit.wrongLaw(x, "grip 3 if age < ", 16);
        Kit.wrongLaw(x, "grip 3 if age < wished", 16);
        Kit.wrongLaw(x, "grip 3 if age < 1000", 16);
        Kit.wrongLaw(x, "grip 3 if age + < 3", 16);
        Kit.wrongLaw(x, "grip 3 if (age) < 3", 14);
        Kit.wrongLaw(x, "grip 3 if 1 < 2 < 3", 16);
        Kit.wrongLaw(x, "grip 3 if wished < 3", 17);
        Kit.wrongLaw(x, "grip 3 if wished and", 20);
        Kit.wrongLaw(x, "grip 3 if wished or and", 20);
        Kit.wrongLaw(x, "grip 3 if wished)", 16);
        Kit.wrongLaw(x, "grip 3 if (wished;lead 3", 17);
        Kit.wrongLaw(x, "grip 3 if not", 13);
        Kit.wrongLaw(x, "grip 3 if ()", 11);
        Kit.wrongLaw(x, "grip 3 if wish", 10);
        Kit.wrongLaw(x, "grip 3 if thing < 3", 10);
        Kit.wrongLaw(x, "grip 3 if a < 3", 10);
        Kit.wrongLaw(x, "grip 3 if fate < 3", 10);
        Kit.wrongLaw(x, "lead 3;" + "lead 3;".repeat(11), 84);
        Kit.wrongLaw(x, "lead 3;" + "lead 3;".repeat(11) + " 5", 85);
        Kit.due("none yet", x.count(2), -1);
    }

    private static void lawDepth() {
        ShutFists x = Kit.parish("child a");
        Kit.wrongLaw(x, "lead 5 if (((((((wished)))))))", 16);
        Kit.wrongLaw(x, "lead 5 if not(not(not(not wished)))", 22);
        Kit.due("6 deep", Kit.text(x, "lead 5 if not(not(not(wished)))and not(not(not(wished)))").law(), 1);
        Kit.wrongLaw(x, "lead 5 if 1>" + "1+".repeat(194), 400);
        Kit.wrongLaw(x, "lead 5 if " + "7".repeat(390), 10);
        Kit.wrongLaw(x, "lead 5 if " + "a".repeat(390), 10);
        Kit.due("as bytes allow", Kit.text(x, "lead 5 if 0" + "+1".repeat(190) + "<200").law(), 1);
        Kit.due("a long sum", x.child(0, 10), 5);
        Kit.due("many atoms", Kit.text(x, "lead 5 if 1>2" + "or 1>2".repeat(60) + "or 2>1").law(), 1);
        Kit.due("the last one holds", x.child(0, 10), 5);
    }

    private static void wrongTextsChangeNothing() {
        ShutFists x = Kit.parish("child a;month 4");
        Kit.law(x, "loosen 40");
        x.grip(0, 3);
        Kit.wrongParish(x, "thing a meant 7 size 1 warm 1 worth 9;child b;knot 0 1;month 5;empty 5;x", 71);
        Kit.due("children", x.count(0), 1);
        Kit.due("meant", x.thing(0, 0), 1);
        Kit.due("knot", x.child(0, 8), -1);
        Kit.due("month", x.count(3), 4);
        Kit.due("empty", x.count(4), 1);
        Kit.due("texts", x.count(1), 1);
        Kit.wrongLaw(x, "grip 100;lead 3;x", 16);
        Kit.due("the law stays", x.child(0, 9), 35);
        Kit.due("lines", x.count(2), 1);
        Kit.due("acts are remembered still", x.count(9), 1);
        Kit.law(x, "loosen 40");
        Kit.due("a text: none are", x.count(9), 0);
        x.grip(0, 2);
        Kit.text(x, "").parish();
        Kit.due("an empty text: none are", x.count(9), 0);
    }
}
