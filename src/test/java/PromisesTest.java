/** Each promise by hand: ordinary calls, the edges that the document names, wrong calls. */
public final class PromisesTest {
    private static final int NONE = -1, BAD = -2, STATE = -3, FULL = -4, NOWHERE = -5, UNTOLD = -10001;
    private static final int RIGHT = 0, LEFT = 1, ABOVE = 2, BELOW = 3, OUT = 4;
    private static final int NAME = 0, LARGE = 1, COASTAL = 2, SHY = 3, CITY = 4, HARBOUR = 5, TOLD = 6;

    private PromisesTest() {
    }

    public static void main(String[] args) {
        newObject();
        feed();
        map();
        faults();
        tests();
        dot();
        of();
        places();
        row();
        good();
        lay();
        lift();
        told();
        clash();
        at();
        most();
        best();
        all();
        room();
        moved();
        movedOfWhatDoesNotFit();
        inline();
        order();
        far();
        see();
        can();
        firm();
        odds();
        mean();
        plan();
        book();
        act();
        as();
        image();
        count();
        Due.close();
    }

    private static void due(String what, long got, long want) {
        Due.due(what, got, want);
    }

    private static int read(NamesNoTouch x, String text) {
        for (int i = 0; i < text.length(); i++) {
            x.feed(text.charAt(i));
        }
        return x.map();
    }

    private static void newObject() {
        NamesNoTouch x = new NamesNoTouch();
        for (int what = 0; what <= 6; what++) {
            due("1: count(" + what + ")", x.count(what), 0);
        }
        due("1: WIDE", x.told(0), 24);
        due("1: RIVER", x.told(1), 99);
        due("1: undo", x.undo(), STATE);
        due("1: trace", x.trace(0), NONE);
        due("1: of", x.of(0, 0), NONE);
    }

    private static void feed() {
        NamesNoTouch x = new NamesNoTouch();
        due("2: sign -1", x.feed(-1), BAD);
        due("2: sign 128", x.feed(128), BAD);
        due("2: sign 0", x.feed(0), 1);
        due("2: sign 127", x.feed(127), 2);
        for (int i = 3; i <= 100; i++) {
            due("2: sign " + i, x.feed(59), i);
        }
        due("2: full", x.feed(59), FULL);
        due("2: bad ahead of full", x.feed(128), BAD);
        due("2: the tape", x.count(5), 100);
    }

    private static void map() {
        NamesNoTouch x = new NamesNoTouch();
        due("3: first", read(x, "wide 9"), 0);
        due("3: WIDE at least", x.told(0), 10);
        due("3: second", read(x, "wide 31;river 7"), 1);
        due("3: WIDE at most", x.told(0), 30);
        due("3: RIVER", x.told(1), 7);
        due("3: fault", read(x, "wide 12;rover"), -19);
        due("3: the one that held holds", x.told(0), 30);
        due("3: the tape is empty", x.count(5), 0);
        due("3: the last n", read(x, "wide 15;river 3;wide 16;river 0"), 2);
        due("3: WIDE", x.told(0), 16);
        due("3: RIVER", x.told(1), 0);
        due("3: no wide in it", read(x, "river 98"), 3);
        due("3: WIDE without", x.told(0), 24);
        due("3: RIVER", x.told(1), 98);
        due("3: fifth", read(x, "love 1 n=0"), 4);
        due("3: RIVER without", x.told(1), 99);
        due("3: full", read(x, "wide 20"), FULL);
        due("3: the tape stays", x.count(5), 7);
        due("3: full ahead of a fault", read(x, "?"), FULL);
        due("3: maps", x.count(1), 5);
    }

    private static void fault(String text, int place) {
        due("3: " + text, read(new NamesNoTouch(), text), place < 0 ? 0 : -10 - place);
    }

    private static void faults() {
        fault("", 0);
        fault("w", 1);
        fault("wide", 4);
        fault("wide ", 5);
        fault("wide  1", 5);
        fault("wide x", 5);
        fault("wide 1", -1);
        fault("wide 00", 6);
        fault("wide 0", -1);
        fault("wide 100", 7);
        fault("wide 10 ", 7);
        fault("wide 10;", 8);
        fault("wide 10;;", 8);
        fault("River 1", 0);
        fault("river 1;love 3 p=0", -1);
        fault("love 3", 6);
        fault("love 3 ", 7);
        fault("love 3;", 6);
        fault("love 3 a=1", 7);
        fault("love 3 n1", 8);
        fault("love 3 n=", 9);
        fault("love 3 n=x", 9);
        fault("love 3 n==1", 9);
        fault("love 3 n=01", 10);
        fault("love 3 n=100", 11);
        fault("love 3 n=1 ", 10);
        fault("love 3 n=1&", 11);
        fault("love 3 n=1&|", 11);
        fault("love 3 n=1)", 10);
        fault("love 3 (n=1", 11);
        fault("love 3 (n=1;", 11);
        fault("love 3 ()", 8);
        fault("love 3 (n=1)n", 12);
        fault("love 3 !", 8);
        fault("love 3 !&", 8);
        fault("love 3 n!1", 8);
        fault("bore 99 n<10|k>2&v=0", -1);
        fault("bore 9 !!!!!n=1", -1);
        fault("bore 9 !!!!!!n=1", 12);
        fault("bore 9 (((((n=1)))))", -1);
        fault("bore 9 ((((((n=1))))))", 12);
        fault("bore 9 !(!(!n=1))&!(!(!n=1))", -1);
        fault("bore 9 !(!(!!n=1))", 12);
        fault("bore 9 (!!!!n=1&!!!!n=1)&!!!!!n=1", -1);
        fault("bore 9 (!!!!n=1&!!!!!n=1)", 20);
        fault("bore 9 !!!!!(n=1)", 12);
        String nine = "wide 1;wide 2;wide 3;wide 4;wide 5;wide 6;wide 7;wide 8;wide 9;";
        fault(nine + "wide 0", -1);
        fault(nine + "wide 0;", 69);
        fault(nine + "wide 0;wide 1", 69);
        fault(nine + "wide 0)", 69);
    }

    /** Of a test alone: how much is loved of name 1 (kind 2, v 3, letters 6, column 17) above. */
    private static void test(String e, boolean is) {
        NamesNoTouch x = new NamesNoTouch();
        x.dot(NAME, 0, 1, 0, 0);
        x.dot(COASTAL, 3, 6, 17, 3);
        due("7: map " + e, read(x, "love 20 " + e), 0);
        due("7: " + e, x.good(1, ABOVE), is ? 30 : 10);
    }

    private static void tests() {
        test("n=1", true);
        test("n<1", false);
        test("n>0", true);
        test("k=2", true);
        test("k>2", false);
        test("v=3", true);
        test("v<3", false);
        test("v<4", true);
        test("p=2", true);
        test("p=0", false);
        test("x=5", true);
        test("x>5", false);
        test("x<6", true);
        test("l=6", true);
        test("l>10", false);
        test("l<99", true);
        test("n<99", true);
        test("n>99", false);
        test("!l=6", false);
        test("!!l=6", true);
        test("n<0", false);
        test("n=1|n<0", true);
        test("n=1&!n<0", true);
        test("n=1|n=0&n=0", true);
        test("(n=1|n=0)&n=0", false);
        test("n=0&n=0|n=1", true);
        test("n=0&(n=0|n=1)", false);
        test("!n=0&n=0", false);
        test("!(n=0&n=0)", true);
        test("n=1&k=2&v=3&p=2", true);
        test("n=1&k=2&v=3&p=1", false);
        test("n=0|k=0|v=0|p=2", true);
        test("!(n=0|(k=2&!(v=3)))", true);
    }

    private static void dot() {
        NamesNoTouch x = new NamesNoTouch();
        due("4: kind -1", x.dot(-1, 99, 0, -1, -1), NONE);
        due("4: kind 7", x.dot(7, 0, 1, 0, 0), NONE);
        due("4: v -1", x.dot(0, -1, 1, 0, 0), BAD);
        due("4: v 10", x.dot(0, 10, 1, 0, 0), BAD);
        due("4: letters 0", x.dot(0, 0, 0, 0, 0), BAD);
        due("4: letters 10", x.dot(0, 0, 10, 0, 0), BAD);
        due("4: column -1", x.dot(0, 0, 1, -1, 0), BAD);
        due("4: column 30", x.dot(0, 0, 1, 30, 0), BAD);
        due("4: row -1", x.dot(0, 0, 1, 0, -1), BAD);
        due("4: row 12", x.dot(0, 0, 1, 0, 12), BAD);
        due("4: none came", x.count(0), 0);
        for (int i = 0; i < 7; i++) {
            due("4: dot " + i, x.dot(i, 9, 9, i == 6 ? 29 : i, 11), i);
        }
        due("4: full", x.dot(0, 0, 1, 8, 0), FULL);
        due("4: the first is there", x.dot(0, 0, 1, 0, 11), BAD);
        due("4: there ahead of full", x.dot(0, 0, 1, 29, 11), BAD);
        due("4: kind ahead of full", x.dot(7, 0, 1, 8, 0), NONE);
    }

    private static void of() {
        NamesNoTouch x = new NamesNoTouch();
        int[] lengths = {7, 10, 7, 5, 11, 7, 5};
        int[] may = {15, 3, 9, 12, 15, 1, 0};
        for (int kind = 0; kind < 7; kind++) {
            x.dot(kind, 8, 7, 3 * kind, kind);
            int[] all = {kind, 8, 7, 3 * kind, kind, lengths[kind], NOWHERE, may[kind]};
            for (int what = 0; what < all.length; what++) {
                due("5: of " + kind + " " + what, x.of(kind, what), all[what]);
            }
        }
        due("5: what -1", x.of(0, -1), NONE);
        due("5: what 10", x.of(0, 10), NONE);
        due("5: name -1", x.of(-1, 0), NONE);
        due("5: name 7", x.of(7, 0), NONE);
        NamesNoTouch y = new NamesNoTouch();
        y.dot(SHY, 9, 2, 0, 0);
        due("5: LENGTH at least", y.of(0, 5), 1);
        y.dot(SHY, 9, 4, 1, 0);
        due("5: LENGTH 4 - 3", y.of(1, 5), 1);
        y.dot(SHY, 2, 4, 2, 0);
        due("5: v's third is cut", y.of(2, 5), 4);
    }

    private static void places() {
        NamesNoTouch x = new NamesNoTouch();
        x.dot(NAME, 0, 4, 4, 0);
        due("5: left to the sheet's end, none above", x.of(0, 8), 11);
        x.dot(NAME, 0, 4, 3, 11);
        due("5: one short on the left, none below", x.of(1, 8), 5);
        x.dot(NAME, 0, 4, 20, 5);
        due("5: right out, above and below in", x.of(2, 8), 14);
        x.dot(NAME, 0, 4, 19, 7);
        due("5: right in", x.of(3, 8), 15);
        x.dot(NAME, 0, 1, 23, 7);
        due("5: a dot in its cells, another's", x.of(3, 8), 14);
        x.dot(NAME, 0, 3, 26, 9);
        due("5: a dot off the sheet, partly", x.of(5, 8), 0);
        x.dot(NAME, 0, 3, 24, 2);
        due("5: a dot off the sheet, its left in", x.of(6, 8), 2);
        read(x, "wide 30");
        due("5: on a wider sheet", x.of(5, 8), 15);
        due("5: FREE", x.of(2, 9), 15);
        due("5: laid", x.lay(3, ABOVE), NOWHERE);
        due("5: where", x.of(3, 6), ABOVE);
        due("5: FREE", x.of(2, 9), 7);
        due("5: FITS", x.of(2, 8), 15);
        due("5: its own is no hindrance", x.of(3, 9), 14);
        NamesNoTouch y = new NamesNoTouch();
        y.dot(NAME, 0, 3, 10, 5);
        y.dot(NAME, 0, 3, 6, 5);
        y.dot(NAME, 0, 3, 6, 6);
        y.dot(NAME, 0, 3, 9, 6);
        due("5: the first's dot is just not in it, one is below", y.of(1, 8), 7);
        due("5: dots around it", y.of(0, 8), 15);
        y.lay(1, RIGHT);
        due("5: left of one would be right of another", y.of(0, 9), 13);
        y.lift(1);
        y.lay(0, LEFT);
        due("5: and the other way round", y.of(1, 9), 6);
        NamesNoTouch v = new NamesNoTouch();
        v.dot(NAME, 0, 1, 9, 9);
        v.dot(NAME, 0, 1, 8, 9);
        due("5: the first's dot in it", v.of(1, 8), 14);
        due("5: the second's dot in it", v.of(0, 8), 13);
        NamesNoTouch z = new NamesNoTouch();
        z.dot(NAME, 0, 3, 5, 5);
        z.dot(NAME, 0, 4, 1, 7);
        due("5: one is just short", z.of(1, 9), 13);
        z.dot(NAME, 0, 3, 5, 7);
        due("5: one cell over a dot", z.of(1, 9), 12);
        z.lay(0, BELOW);
        z.dot(SHY, 0, 3, 3, 7);
        due("5: one cell in common", z.of(3, 9), 8);
    }

    private static void row() {
        NamesNoTouch x = new NamesNoTouch();
        x.dot(TOLD, 0, 3, 10, 5);
        x.dot(SHY, 0, 3, 10, 8);
        due("6: was", x.row(0, 1, 9), 0);
        due("6: was", x.row(0, 1, 1), 9);
        due("6: was", x.row(0, 3, 2), 0);
        due("6: MAY", x.of(0, 7), 10);
        due("6: back", x.row(0, 1, 0), 1);
        due("6: MAY", x.of(0, 7), 8);
        due("6: name", x.row(2, 1, 10), NONE);
        due("6: k -1", x.row(0, -1, 10), NONE);
        due("6: k 4", x.row(1, 4, 10), NONE);
        due("6: n 10", x.row(1, 0, 10), BAD);
        due("6: n -1", x.row(0, 0, -1), BAD);
        due("6: another kind", x.row(1, 0, 1), STATE);
        due("6: nothing came of these", x.row(0, 0, 0), 0);
    }

    private static void good() {
        NamesNoTouch x = new NamesNoTouch();
        x.dot(LARGE, 2, 4, 20, 5);
        due("7: without a map", x.good(0, BELOW), 10);
        read(x, "river 26;love 7 p=0;love 5 k=1;bore 40 p>2");
        due("7: loved twice, the river in its last cell", x.good(0, RIGHT), 17);
        due("7: left", x.good(0, LEFT), 15);
        due("7: above, no cell in the river", x.good(0, ABOVE), 15);
        due("7: below 0", x.good(0, BELOW), -25);
        read(x, "river 25");
        due("7: its last above, off the sheet", x.good(0, ABOVE), 5);
        read(x, "river 20");
        due("7: its dot's column, right", x.good(0, RIGHT), 10);
        due("7: its dot's column, above", x.good(0, ABOVE), 5);
        due("7: its dot's column, left", x.good(0, LEFT), 10);
        due("7: name", x.good(1, 0), UNTOLD);
        due("7: name", x.good(-1, 0), UNTOLD);
        due("7: place", x.good(0, 4), UNTOLD);
        due("7: place", x.good(0, -1), UNTOLD);
    }

    private static void lay() {
        NamesNoTouch x = new NamesNoTouch();
        x.dot(NAME, 0, 4, 10, 5);
        x.dot(NAME, 0, 4, 12, 7);
        due("8: laid", x.lay(0, BELOW), NOWHERE);
        due("8: clashing", x.lay(1, ABOVE), STATE);
        due("8: over a dot", x.lay(1, LEFT), NOWHERE);
        due("8: moved", x.lay(1, RIGHT), LEFT);
        due("8: the same again", x.lay(1, RIGHT), RIGHT);
        due("8: to another", x.lay(0, RIGHT), BELOW);
        due("8: now free", x.lay(1, ABOVE), RIGHT);
        due("8: name", x.lay(2, 0), NONE);
        due("8: place -1", x.lay(0, -1), NONE);
        due("8: place 4", x.lay(0, 4), NONE);
        x.dot(SHY, 0, 2, 5, 1);
        due("8: it may not", x.lay(2, RIGHT), STATE);
        due("8: still out", x.of(2, 6), NOWHERE);
    }

    private static void lift() {
        NamesNoTouch x = new NamesNoTouch();
        x.dot(NAME, 0, 4, 10, 5);
        due("9: out already", x.lift(0), NOWHERE);
        x.lay(0, BELOW);
        due("9: was below", x.lift(0), BELOW);
        due("9: out", x.of(0, 6), NOWHERE);
        due("9: name", x.lift(1), NONE);
        due("9: name", x.lift(-1), NONE);
    }

    private static void told() {
        NamesNoTouch x = new NamesNoTouch();
        x.dot(NAME, 0, 5, 4, 5);
        x.dot(NAME, 0, 5, 4, 7);
        x.dot(NAME, 0, 3, 20, 9);
        read(x, "wide 28;river 30;bore 25 n=2;love 3 n=0");
        due("10: WIDE", x.told(0), 28);
        due("10: RIVER", x.told(1), 30);
        due("10: none laid", x.told(2), 0);
        x.lay(0, RIGHT);
        x.lay(2, LEFT);
        due("10: laid", x.told(2), 2);
        due("10: SCORE", x.told(3), -2);
        due("10: which", x.told(5), 5);
        due("10: MISTAKEN none", x.told(4), 0);
        x.dot(NAME, 0, 1, 8, 3);
        due("10: as far to another is not nearer", x.told(4), 0);
        x.dot(NAME, 0, 1, 8, 4);
        due("10: nearer to another", x.told(4), 1);
        NamesNoTouch y = new NamesNoTouch();
        y.dot(NAME, 0, 1, 12, 4);
        y.dot(NAME, 0, 7, 8, 6);
        y.lay(1, ABOVE);
        due("10: nearer to the first", y.told(4), 2);
        y.lift(1);
        due("10: out", y.told(4), 0);
        due("10: what 6", x.told(6), UNTOLD);
        due("10: what -1", x.told(-1), UNTOLD);
    }

    private static void clash() {
        NamesNoTouch x = new NamesNoTouch();
        x.dot(NAME, 0, 6, 2, 0);
        x.dot(SHY, 0, 6, 4, 0);
        due("11: in a row", x.clash(0, RIGHT, 1, RIGHT), 4);
        due("11: off the sheet", x.clash(0, ABOVE, 1, ABOVE), 4);
        due("11: the other way round", x.clash(1, ABOVE, 0, ABOVE), 4);
        due("11: off the sheet on the left", x.clash(0, LEFT, 1, LEFT), 4);
        due("11: none", x.clash(0, ABOVE, 1, BELOW), 0);
        due("11: side by side", x.clash(0, LEFT, 1, RIGHT), 0);
        due("11: left of one, right of the other", x.clash(0, RIGHT, 1, LEFT), 1);
        x.dot(CITY, 0, 9, 0, 5);
        x.dot(CITY, 0, 9, 1, 5);
        x.dot(CITY, 0, 9, 29, 7);
        x.dot(CITY, 0, 9, 28, 7);
        due("11: the furthest left", x.clash(2, LEFT, 3, LEFT), 13);
        due("11: the furthest right", x.clash(4, RIGHT, 5, RIGHT), 13);
        due("11: one is both", x.clash(1, 0, 1, 2), BAD);
        due("11: one is both, but there is none", x.clash(6, 0, 6, 0), NONE);
        due("11: place", x.clash(1, 4, 1, 0), NONE);
        due("11: where", x.clash(0, 0, 1, -1), NONE);
        due("11: other", x.clash(0, 0, -1, 0), NONE);
    }

    private static void at() {
        NamesNoTouch x = new NamesNoTouch();
        x.dot(NAME, 0, 3, 5, 5);
        x.dot(NAME, 0, 3, 5, 7);
        x.lay(0, BELOW);
        x.lay(1, LEFT);
        due("12: first cell", x.at(5, 6), 1);
        due("12: last cell", x.at(7, 6), 1);
        due("12: behind it", x.at(8, 6), 0);
        due("12: ahead of it", x.at(4, 6), 0);
        due("12: another's", x.at(2, 7), 2);
        due("12: its dot", x.at(5, 7), 0);
        due("12: column 29", x.at(29, 11), 0);
        due("12: column -1", x.at(-1, 0), NONE);
        due("12: column 30", x.at(30, 0), NONE);
        due("12: row -1", x.at(0, -1), NONE);
        due("12: row 12", x.at(0, 12), NONE);
    }

    /** Two dots one above the other, so close that above and below of them vie. */
    private static NamesNoTouch vying() {
        NamesNoTouch x = new NamesNoTouch();
        x.dot(SHY, 0, 3, 5, 0);
        x.dot(SHY, 0, 3, 6, 2);
        return x;
    }

    private static void most() {
        NamesNoTouch x = vying();
        due("13: in", x.most(0), 2);
        due("13: SCORE", x.most(1), 20);
        due("13: first", x.most(10), BELOW);
        due("13: second", x.most(11), BELOW);
        read(x, "bore 60 n=1&p=3;love 5 n=0");
        due("13: as many for less", x.most(0), 2);
        due("13: SCORE", x.most(1), -35);
        due("13: second", x.most(11), BELOW);
        x.dot(SHY, 0, 3, 5, 4);
        due("13: no more", x.most(0), 3);
        due("13: third is driven down", x.most(12), BELOW);
        x.dot(SHY, 0, 3, 4, 6);
        x.lay(3, ABOVE);
        due("13: nothing of what is laid", x.most(13), BELOW);
        due("13: what 2", x.most(2), UNTOLD);
        due("13: what 9", x.most(9), UNTOLD);
        due("13: what -1", x.most(-1), UNTOLD);
        due("13: what 14", x.most(14), UNTOLD);
        due("13: what far off", x.most(Integer.MIN_VALUE), UNTOLD);
        NamesNoTouch y = new NamesNoTouch();
        y.dot(NAME, 0, 1, 10, 5);
        due("13: places come in their order", y.most(10), RIGHT);
        read(y, "bore 1 p<2");
        due("13: the first of the greatest", y.most(10), ABOVE);
        y.dot(TOLD, 0, 1, 20, 5);
        due("13: one that may be nowhere", y.most(0), 1);
        due("13: is out", y.most(11), NOWHERE);
    }

    private static void best() {
        NamesNoTouch x = vying();
        due("14: SCORE", x.best(0), 20);
        read(x, "bore 60 n=1&p=3;love 5 n=0");
        due("14: one alone is better", x.best(0), 15);
        due("14: first", x.best(10), BELOW);
        due("14: second", x.best(11), NOWHERE);
        read(x, "bore 10 n=1");
        due("14: places ahead of out", x.best(11), BELOW);
        read(x, "bore 11 n<9");
        due("14: none", x.best(0), 0);
        due("14: first", x.best(10), NOWHERE);
        due("14: what 1", x.best(1), UNTOLD);
        due("14: what 12", x.best(12), UNTOLD);
        due("14: what -1", x.best(-1), UNTOLD);
    }

    private static void all() {
        NamesNoTouch x = vying();
        due("15: without any", new NamesNoTouch().all(1), 1);
        due("15: below", x.all(8), 1);
        due("15: all four", x.all(15), 1);
        due("15: above", x.all(4), 0);
        due("15: either", x.all(12), 1);
        due("15: right and left", x.all(3), 0);
        x.lay(0, BELOW);
        due("15: what is laid counts for nothing", x.all(8), 1);
        x.dot(NAME, 0, 1, 20, 5);
        due("15: one more, below", x.all(8), 1);
        due("15: set 0", x.all(0), BAD);
        due("15: set 16", x.all(16), BAD);
        due("15: set -1", x.all(-1), BAD);
    }

    private static void room() {
        NamesNoTouch x = new NamesNoTouch();
        due("16: without any", x.room(), 10);
        x.dot(HARBOUR, 0, 9, 5, 5);
        due("16: 6 and 9", x.room(), 15);
        x.dot(HARBOUR, 0, 9, 20, 6);
        due("16: 21 and 9", x.room(), 30);
        x.dot(HARBOUR, 0, 9, 21, 7);
        due("16: none", x.room(), NOWHERE);
        NamesNoTouch y = new NamesNoTouch();
        y.dot(SHY, 0, 2, 3, 0);
        y.dot(SHY, 0, 2, 4, 2);
        y.dot(SHY, 0, 2, 4, 4);
        due("16: least", y.room(), 10);
        y.dot(SHY, 0, 1, 4, 6);
        y.dot(SHY, 0, 1, 4, 8);
        y.dot(SHY, 0, 1, 4, 10);
        y.dot(COASTAL, 0, 2, 3, 10);
        due("16: none by clashes", y.room(), NOWHERE);
    }

    private static void moved() {
        NamesNoTouch x = new NamesNoTouch();
        x.dot(SHY, 0, 3, 5, 2);
        x.dot(SHY, 0, 3, 6, 4);
        x.dot(SHY, 0, 3, 5, 6);
        due("17: none need be", x.moved(0), 0);
        x.lay(0, BELOW);
        due("17: none need be, it goes below", x.moved(1), 0);
        x.lay(2, ABOVE);
        due("17: one of two", x.moved(1), 1);
        due("17: it is laid", x.moved(0), NOWHERE);
        due("17: name", x.moved(3), NONE);
        due("17: name", x.moved(-1), NONE);
        x.dot(TOLD, 0, 1, 20, 5);
        due("17: it may nowhere", x.moved(3), NOWHERE);
        NamesNoTouch y = new NamesNoTouch();
        y.dot(HARBOUR, 0, 3, 6, 2);
        y.dot(SHY, 0, 4, 5, 1);
        y.dot(SHY, 0, 4, 5, 3);
        y.dot(SHY, 0, 4, 4, 5);
        y.lay(1, ABOVE);
        y.lay(2, BELOW);
        y.lay(3, BELOW);
        due("17: none need be", y.moved(0), 0);
        NamesNoTouch z = new NamesNoTouch();
        z.dot(COASTAL, 0, 3, 5, 5);
        z.dot(SHY, 0, 3, 6, 4);
        z.dot(SHY, 0, 3, 6, 6);
        z.lay(1, BELOW);
        due("17: the one that clashes can be above", z.moved(0), 1);
        z.dot(COASTAL, 0, 3, 15, 5);
        z.dot(SHY, 0, 3, 16, 4);
        z.dot(SHY, 0, 3, 14, 7);
        z.lay(4, BELOW);
        z.lay(5, ABOVE);
        due("17: one is moved", z.moved(3), 1);
        NamesNoTouch w = new NamesNoTouch();
        w.dot(HARBOUR, 0, 3, 5, 5);
        w.dot(COASTAL, 0, 3, 6, 4);
        w.dot(COASTAL, 0, 3, 7, 3);
        w.lay(1, BELOW);
        due("17: moved to the right", w.moved(0), 1);
        w.lay(2, BELOW);
        due("17: two are moved to the right", w.moved(0), 2);
    }

    private static void movedOfWhatDoesNotFit() {
        NamesNoTouch x = new NamesNoTouch();
        x.dot(NAME, 0, 3, 20, 5);
        x.dot(NAME, 0, 3, 5, 9);
        x.lay(0, RIGHT);
        due("17: far from it", x.moved(1), 0);
        x.dot(NAME, 0, 1, 22, 5);
        due("17: one does not fit any more", x.moved(1), 1);
        due("17: another", x.moved(2), 1);
        read(x, "wide 10");
        due("17: it can be nowhere", x.moved(1), NOWHERE);
    }

    private static void inline() {
        NamesNoTouch x = new NamesNoTouch();
        due("18: without any", x.inline(0), 0);
        x.dot(NAME, 0, 3, 5, 5);
        x.dot(HARBOUR, 0, 3, 4, 6);
        x.lay(1, RIGHT);
        due("18: in", x.inline(0), 2);
        due("18: SCORE", x.inline(1), 20);
        read(x, "love 4 n=0&p=3");
        due("18: the first takes the second's", x.inline(0), 1);
        due("18: SCORE", x.inline(1), 14);
        read(x, "bore 30 n=0");
        due("18: below 0 it is laid all the same", x.inline(0), 2);
        due("18: SCORE", x.inline(1), -10);
        due("18: what 2", x.inline(2), UNTOLD);
        due("18: what -1", x.inline(-1), UNTOLD);
    }

    private static void order() {
        NamesNoTouch x = new NamesNoTouch();
        x.dot(NAME, 0, 3, 5, 5);
        x.dot(HARBOUR, 0, 3, 4, 6);
        x.dot(NAME, 0, 3, 20, 10);
        due("19: in", x.order(-2), 3);
        due("19: SCORE", x.order(-1), 30);
        due("19: the first as a row", x.order(0) * 100 + x.order(1) * 10 + x.order(2), 12);
        read(x, "love 4 n=0&p=3");
        due("19: in", x.order(-2), 3);
        due("19: SCORE", x.order(-1), 30);
        due("19: the harbour ahead", x.order(0) * 100 + x.order(1) * 10 + x.order(2), 102);
        due("19: no more", x.order(3), NOWHERE);
        due("19: no more", x.order(6), NOWHERE);
        due("19: k 7", x.order(7), UNTOLD);
        due("19: k -3", x.order(-3), UNTOLD);
        NamesNoTouch y = new NamesNoTouch();
        y.dot(NAME, 0, 2, 5, 0);
        y.dot(COASTAL, 0, 2, 4, 1);
        read(y, "love 5 n=0&p=3;love 6 n=1&p=0");
        due("19: of as many", y.order(-2), 2);
        due("19: the greatest score", y.order(-1), 26);
        due("19: the second ahead of the first", y.order(0) * 10 + y.order(1), 10);
        due("19: not so in line", y.inline(1), 25);
        NamesNoTouch z = new NamesNoTouch();
        z.dot(NAME, 0, 3, 5, 5);
        z.dot(TOLD, 0, 3, 20, 10);
        z.dot(HARBOUR, 0, 3, 4, 6);
        read(z, "love 2 n=0&p=0;love 4 n=0&p=3");
        due("19: one is out in any", z.order(-2), 2);
        due("19: SCORE", z.order(-1), 22);
        due("19: the one that is out comes first", z.order(0) * 100 + z.order(1) * 10 + z.order(2), 120);
    }

    private static void far() {
        NamesNoTouch x = new NamesNoTouch();
        x.dot(NAME, 0, 5, 10, 5);
        x.dot(NAME, 0, 4, 10, 8);
        x.dot(NAME, 0, 1, 1, 8);
        due("20: out", x.far(0), NOWHERE);
        x.lay(0, RIGHT);
        x.lay(1, RIGHT);
        due("20: odd, right", x.far(0), 3);
        due("20: even, right", x.far(1), 3);
        x.lay(0, LEFT);
        x.lay(1, LEFT);
        due("20: odd, left", x.far(0), 3);
        due("20: even, left", x.far(1), 2);
        x.lay(0, ABOVE);
        x.lay(1, BELOW);
        due("20: above", x.far(0), 3);
        due("20: below", x.far(1), 3);
        x.lay(2, BELOW);
        due("20: one cell", x.far(2), 1);
        due("20: name", x.far(3), NONE);
        due("20: name", x.far(-1), NONE);
    }

    private static void see() {
        NamesNoTouch x = new NamesNoTouch();
        due("21: column 30", x.see(30, 0, true), NONE);
        due("21: column -2", x.see(-2, 0, true), NONE);
        due("21: row 12", x.see(0, 12, true), NONE);
        due("21: row -1", x.see(0, -1, true), NONE);
        for (int i = 1; i <= 5; i++) {
            due("21: seen " + i, x.see(29, 11, false), i);
        }
        due("21: full", x.see(0, 0, false), FULL);
        due("21: none ahead of full", x.see(0, 12, false), NONE);
        due("21: none then", x.see(-1, 99, false), 0);
        due("21: count", x.count(2), 0);
        due("21: again", x.see(0, 0, false), 1);
    }

    private static void can() {
        NamesNoTouch x = new NamesNoTouch();
        x.dot(SHY, 0, 3, 5, 0);
        x.dot(NAME, 0, 3, 6, 1);
        due("22: nothing seen", x.can(0), 31);
        x.see(7, 1, true);
        due("22: below covers it", x.can(0), 8);
        due("22: right covers it", x.can(1), 1);
        x.lay(1, RIGHT);
        due("22: another covers it", x.can(0), 31);
        x.see(6, 0, false);
        due("22: neither right nor one it may not be at", x.can(0), 30);
        x.see(5, 1, true);
        due("22: below alone, though they clash", x.can(0), 8);
        x.see(0, 5, true);
        due("22: none", x.can(0), 0);
        NamesNoTouch y = new NamesNoTouch();
        y.dot(NAME, 0, 1, 1, 0);
        y.see(0, 0, true);
        due("22: the first cell of all", y.can(0), 2);
        due("22: name", x.can(2), NONE);
        due("22: name", x.can(-1), NONE);
    }

    private static void firm() {
        NamesNoTouch x = new NamesNoTouch();
        x.dot(SHY, 4, 3, 5, 5);
        x.dot(NAME, 4, 3, 15, 5);
        due("23: nothing seen", x.firm(0, 0), 10);
        due("23: the least", x.firm(0, 1), 0);
        x.lay(0, BELOW);
        x.see(6, 6, true);
        due("23: v 0 to 5", x.firm(0, 0), 6);
        x.see(7, 6, false);
        due("23: v 3 to 5", x.firm(0, 0), 3);
        due("23: the least", x.firm(0, 1), 3);
        due("23: another's v", x.firm(1, 0), 10);
        x.see(5, 6, false);
        due("23: none", x.firm(0, 0), 0);
        due("23: the least of none", x.firm(0, 1), NOWHERE);
        due("23: what 2", x.firm(0, 2), NONE);
        due("23: what -1", x.firm(0, -1), NONE);
        due("23: name", x.firm(2, 0), NONE);
        due("23: its v is as it was", x.of(0, 1), 4);
    }

    private static void odds() {
        NamesNoTouch x = new NamesNoTouch();
        x.dot(NAME, 0, 3, 5, 5);
        x.dot(SHY, 0, 3, 5, 7);
        x.dot(TOLD, 0, 3, 15, 0);
        due("24: above", x.odds(0, 0), 1);
        due("24: below", x.odds(0, 1), 1);
        x.lay(1, ABOVE);
        due("24: three of four", x.odds(0, 0), 3);
        due("24: three of four", x.odds(0, 1), 4);
        x.dot(NAME, 0, 3, 3, 5);
        due("24: two of four", x.odds(0, 0), 1);
        due("24: two of four", x.odds(0, 1), 2);
        due("24: it may nowhere", x.odds(2, 0), NamesNoTouch.NO);
        x.row(2, ABOVE, 1);
        due("24: none of one", x.odds(2, 0), 0);
        due("24: none of one", x.odds(2, 1), 1);
        due("24: part 2", x.odds(0, 2), NamesNoTouch.NO);
        due("24: part -1", x.odds(0, -1), NamesNoTouch.NO);
        due("24: name", x.odds(4, 0), NamesNoTouch.NO);
        due("24: name", x.odds(-1, 0), NamesNoTouch.NO);
    }

    private static void mean() {
        NamesNoTouch x = new NamesNoTouch();
        x.dot(NAME, 0, 3, 5, 5);
        x.dot(NAME, 0, 3, 5, 7);
        x.dot(NAME, 0, 3, 5, 9);
        x.dot(NAME, 0, 3, 5, 11);
        due("25: none", x.mean(0), NamesNoTouch.NO);
        due("25: none", x.mean(1), NamesNoTouch.NO);
        read(x, "bore 36 n=0");
        x.lay(0, RIGHT);
        due("25: below 0", x.mean(0), -26);
        due("25: below 0", x.mean(1), 1);
        x.lay(1, RIGHT);
        x.lay(2, RIGHT);
        due("25: -6 of 3", x.mean(0), -2);
        due("25: -6 of 3", x.mean(1), 1);
        x.lay(3, RIGHT);
        due("25: 4 of 4", x.mean(0), 1);
        read(x, "bore 42 n=0");
        due("25: -2 of 4", x.mean(0), -1);
        due("25: -2 of 4", x.mean(1), 2);
        read(x, "bore 40 n=0");
        due("25: 0 of 4", x.mean(0), 0);
        due("25: 0 of 4", x.mean(1), 1);
        due("25: part 2", x.mean(2), NamesNoTouch.NO);
        due("25: part -1", x.mean(-1), NamesNoTouch.NO);
    }

    private static void plan() {
        NamesNoTouch x = new NamesNoTouch();
        x.dot(NAME, 0, 3, 5, 5);
        x.dot(SHY, 0, 3, 5, 7);
        due("26: name", x.plan(2, 0), NONE);
        due("26: name", x.plan(-2, 0), NONE);
        due("26: place", x.plan(0, 5), NONE);
        due("26: place", x.plan(0, -1), NONE);
        due("26: first", x.plan(0, BELOW), 1);
        due("26: second", x.plan(1, ABOVE), 2);
        due("27: the second is passed over", x.done(0), 1);
        x.plan(0, RIGHT);
        due("27: still one", x.done(0), 1);
        x.plan(1, ABOVE);
        due("27: now it can", x.done(0), 2);
        read(x, "love 2 p=2;bore 3 p=0");
        due("27: SCORE", x.done(1), 19);
        x.plan(0, OUT);
        due("27: one is out", x.done(1), 12);
        due("27: nothing is laid by it", x.told(2), 0);
        x.lay(0, LEFT);
        due("27: from where they are", x.done(0), 1);
        x.plan(1, RIGHT);
        x.plan(1, RIGHT);
        due("26: eighth", x.plan(1, RIGHT), 8);
        due("26: full", x.plan(1, RIGHT), FULL);
        due("26: place ahead of full", x.plan(1, 5), NONE);
        due("27: one that may not is passed over", x.done(1), 12);
        due("27: what 2", x.done(2), UNTOLD);
        due("27: what -1", x.done(-1), UNTOLD);
        due("26: none then", x.plan(-1, 99), 0);
        due("26: count", x.count(3), 0);
        due("27: as they are", x.done(0), 1);
    }

    private static void book() {
        NamesNoTouch x = new NamesNoTouch();
        x.dot(NAME, 0, 3, 5, 5);
        x.dot(NAME, 0, 3, 5, 7);
        due("29: none", x.looked(), NOWHERE);
        due("28: name", x.book(2, 0), NONE);
        due("28: name", x.book(-2, 0), NONE);
        due("28: place", x.book(0, 5), NONE);
        due("28: place", x.book(0, -1), NONE);
        due("28: out", x.book(0, OUT), 1);
        due("29: so", x.looked(), NOWHERE);
        due("28: right", x.book(1, RIGHT), 2);
        due("29: otherwise", x.looked(), 1);
        x.lay(1, RIGHT);
        due("29: so now", x.looked(), NOWHERE);
        x.lay(0, LEFT);
        due("29: the first is not", x.looked(), 0);
        for (int i = 3; i <= 8; i++) {
            due("28: row " + i, x.book(1, BELOW), i);
        }
        due("28: full", x.book(1, BELOW), FULL);
        due("28: name ahead of full", x.book(7, BELOW), NONE);
        x.lift(0);
        due("29: third row", x.looked(), 2);
        due("28: none then", x.book(-1, -1), 0);
        due("28: count", x.count(4), 0);
        due("29: none", x.looked(), NOWHERE);
    }

    private static void acted(NamesNoTouch x, int name, int act, int arg, int answer, int... bodies) {
        due("30: " + name + " " + act + " " + arg, x.act(name, act, arg), answer);
        for (int i = 0; i < bodies.length; i++) {
            due("31: body " + i + " of " + name + " " + act, x.trace(i), bodies[i]);
        }
        due("31: behind the last", x.trace(bodies.length), NONE);
        due("35: bodies", x.count(6), bodies.length);
    }

    private static void act() {
        NamesNoTouch x = new NamesNoTouch();
        for (int kind = 0; kind < 7; kind++) {
            x.dot(kind, kind + 1, 1, kind, 0);
        }
        acted(x, NAME, 0, 5, 5, 1);
        acted(x, NAME, 1, 5, 4, 2, 1);
        acted(x, NAME, 2, 5, 8, 3, 2, 1);
        acted(x, LARGE, 0, 5, 16, 11, 1);
        acted(x, LARGE, 1, 5, 14, 2, 11, 1);
        acted(x, LARGE, 2, 5, 28, 3, 2, 11, 1);
        acted(x, COASTAL, 0, 5, 7, 1);
        acted(x, COASTAL, 1, 5, -4, 21, 2, 1);
        acted(x, COASTAL, 2, 5, -8, 3, 21, 2, 1);
        acted(x, SHY, 0, 5, 8, 1);
        acted(x, SHY, 1, 5, 4, 2, 1);
        acted(x, SHY, 2, 5, 15, 31, 3, 2, 1);
        acted(x, CITY, 0, 5, 19, 11, 1);
        acted(x, CITY, 1, 5, 14, 2, 11, 1);
        acted(x, CITY, 2, 5, 32, 41, 3, 2, 11, 1, 11, 1);
        acted(x, HARBOUR, 0, 5, 15, 51, 1);
        acted(x, HARBOUR, 1, 5, -9, 21, 2, 51, 1);
        acted(x, HARBOUR, 2, 5, -18, 3, 21, 2, 51, 1);
        acted(x, TOLD, 0, 5, 11, 1);
        acted(x, TOLD, 1, 5, 11, 61, 2, 1);
        acted(x, TOLD, 2, 5, 17, 31, 3, 61, 2, 1);
        acted(x, LARGE, 0, Integer.MAX_VALUE, Integer.MAX_VALUE - 1, 11, 1);
        acted(x, COASTAL, 1, Integer.MIN_VALUE + 1, Integer.MIN_VALUE, 21, 2, 1);
        acted(x, NAME, 3, 5, 0);
        acted(x, NAME, 2, 5, 8, 3, 2, 1);
        acted(x, 7, 0, 5, 0);
        acted(x, NAME, 2, 5, 8, 3, 2, 1);
        acted(x, -1, 0, 5, 0);
        acted(x, NAME, -1, 5, 0);
        acted(x, NAME, 0, 5, 5, 1);
        due("31: i -1", x.trace(-1), NONE);
        due("31: i 20", x.trace(20), NONE);
    }

    private static void as() {
        NamesNoTouch x = new NamesNoTouch();
        boolean[][] under = {
            {true, false, false, false, false, false, false},
            {true, true, false, false, false, false, false},
            {true, false, true, false, false, false, false},
            {true, false, false, true, false, false, false},
            {true, true, false, false, true, false, false},
            {true, false, true, false, false, true, false},
            {true, false, false, true, false, false, true}};
        for (int kind = 0; kind < 7; kind++) {
            x.dot(kind, 9 - kind, 1, kind, 0);
            for (int k = 0; k < 7; k++) {
                due("32: " + kind + " as " + k, x.as(kind, k), under[kind][k] ? 9 - kind : -6);
            }
        }
        due("32: k 7", x.as(0, 7), NONE);
        due("32: k -1", x.as(0, -1), NONE);
        due("32: name", x.as(7, 0), NONE);
        due("32: name", x.as(-1, 0), NONE);
    }

    private static void image() {
        NamesNoTouch x = new NamesNoTouch();
        due("34: none", x.undo(), STATE);
        due("33: without names", x.image(), 0);
        x.dot(TOLD, 3, 2, 5, 5);
        x.row(0, RIGHT, 4);
        due("34: without names", x.undo(), 0);
        due("34: no dot", x.count(0), 0);
        x.dot(TOLD, 2, 2, 5, 5);
        due("34: nothing is left of its row", x.of(0, 7), 0);
        x.row(0, RIGHT, 4);
        x.lay(0, RIGHT);
        read(x, "wide 20;river 6;love 3 n=0");
        x.see(6, 5, true);
        x.plan(0, OUT);
        x.book(0, RIGHT);
        x.feed('w');
        x.act(0, 1, 1);
        due("33: one name", x.image(), 1);
        x.dot(NAME, 0, 1, 15, 5);
        x.lift(0);
        x.row(0, RIGHT, 0);
        x.map();
        read(x, "wide 11");
        x.see(7, 5, true);
        x.plan(-1, 0);
        x.book(0, OUT);
        x.act(0, 0, 1);
        x.feed('r');
        x.feed('i');
        due("34: one name", x.undo(), 1);
        int[] counts = {1, 1, 1, 1, 1, 1, 1};
        for (int what = 0; what < counts.length; what++) {
            due("34: count(" + what + ")", x.count(what), counts[what]);
        }
        due("34: the trace is not in it", x.trace(0), 1);
        due("34: laid", x.of(0, 6), RIGHT);
        due("34: row", x.of(0, 7), 1);
        due("34: WIDE", x.told(0), 20);
        due("34: RIVER", x.told(1), 6);
        due("34: SCORE", x.told(3), 8);
        due("34: seen", x.can(0), 1);
        due("34: plan", x.done(0), 0);
        due("34: book", x.looked(), NOWHERE);
        due("34: tape", read(x, "ide 12"), 1);
        x.lift(0);
        due("34: again, the image stays", x.undo(), 1);
        due("34: laid again", x.of(0, 6), RIGHT);
        due("34: maps again", x.count(1), 1);
        due("34: and is not moved by what came", x.told(0), 20);
    }

    private static void count() {
        NamesNoTouch x = new NamesNoTouch();
        x.dot(NAME, 0, 1, 0, 0);
        x.dot(NAME, 0, 1, 0, 1);
        for (int i = 0; i < 4; i++) {
            read(x, "wide 10");
        }
        x.see(0, 0, true);
        x.see(0, 0, true);
        x.see(0, 0, true);
        for (int i = 0; i < 5; i++) {
            x.plan(0, 0);
        }
        for (int i = 0; i < 6; i++) {
            x.book(0, 0);
        }
        for (int i = 0; i < 7; i++) {
            x.feed(0);
        }
        x.act(0, 1, 0);
        int[] counts = {2, 4, 3, 5, 6, 7, 2};
        for (int what = 0; what < counts.length; what++) {
            due("35: count(" + what + ")", x.count(what), counts[what]);
        }
        due("35: what 7", x.count(7), NONE);
        due("35: what -1", x.count(-1), NONE);
    }
}
