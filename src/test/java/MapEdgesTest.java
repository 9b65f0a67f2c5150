/** The tape and the maps (promises 1 to 3, and 7 for what a map comes to): each edge that the document names. */
public final class MapEdgesTest {
    private static final String YES = "n=0", NO = "n>0";

    private MapEdgesTest() {
    }

    public static void main(String[] args) {
        nothingIsThereAtFirst();
        aSignIsFrom0To127();
        theTapeHasHundredAtMost();
        theTapeIsEmptyAfterAMap();
        aMapOfAllHundredBytes();
        anEmptyTapeEndsTooEarly();
        tenClausesAtMost();
        eachClauseCutShort();
        eachByteSpoilt();
        oneBlankAheadOfEachPart();
        oneOrTwoDigits();
        noZeroAheadOfAnother();
        bytesThatAreNoText();
        fiveOpenOfAnyMixture();
        aParenthesisIsOpenTillItsEnd();
        aNotIsOpenTillItsFactorEnds();
        aParenthesisMustEnd();
        fiveMapsAtMost();
        aFaultLeavesTheMapThatHeld();
        theNewestMapHolds();
        wideIsFrom10To30();
        riverIsTheNumberTold();
        theLastNumberHolds();
        eachTestAtItsEdges();
        theColumnByThreeIsCut();
        andBindsMoreThanOr();
        longChains();
        allThatHoldsTogether();
        Due.close();
    }

    private static void due(String what, long got, long want) {
        Due.due(what, got, want);
    }

    private static void isMap(String text) {
        due("3: a map: " + text, Made.read(new NamesNoTouch(), text), 0);
    }

    private static void isFault(int place, String text) {
        NamesNoTouch x = new NamesNoTouch();
        due("3: a fault: " + text, Made.read(x, text), -10 - place);
        due("3: no map then: " + text, x.count(1), 0);
        due("3: the tape is empty then: " + text, x.count(5), 0);
    }

    private static void nothingIsThereAtFirst() {
        NamesNoTouch x = new NamesNoTouch();
        due("1: no dots", x.count(0), 0);
        due("1: no map", x.count(1), 0);
        due("1: wide without a map", x.told(0), 24);
        due("1: river without a map", x.told(1), 99);
        due("1: the first dot is 0", x.dot(0, 0, 1, 0, 0), 0);
        due("1: out at first", x.of(0, 6), Made.NOWHERE);
        due("1: the first map is 0", Made.read(x, "wide 11"), 0);
    }

    private static void aSignIsFrom0To127() {
        NamesNoTouch x = new NamesNoTouch();
        due("2: least int", x.feed(Made.LEAST), Made.BAD);
        due("2: -1", x.feed(-1), Made.BAD);
        due("2: 128", x.feed(128), Made.BAD);
        due("2: 'w' and 256", x.feed('w' + 256), Made.BAD);
        due("2: greatest int", x.feed(Made.GREATEST), Made.BAD);
        due("2: none of these came", x.count(5), 0);
        due("2: 0", x.feed(0), 1);
        due("2: 127", x.feed(127), 2);
    }

    private static void theTapeHasHundredAtMost() {
        NamesNoTouch x = new NamesNoTouch();
        Made.feed(x, "wide 15;" + Made.times("wide 20;", 11));
        due("2: 96", x.count(5), 96);
        Made.feed(x, "wid");
        due("2: the hundredth", x.feed('e'), 100);
        due("2: one more", x.feed('e'), Made.FULL);
        due("2: bad ahead of full", x.feed(-1), Made.BAD);
        due("2: bad ahead of full", x.feed(128), Made.BAD);
        due("2: still hundred", x.count(5), 100);
        due("3: the eleventh clause", x.map(), -10 - (8 * 10 - 1));
        due("2: empty again", x.feed('w'), 1);
    }

    private static void theTapeIsEmptyAfterAMap() {
        NamesNoTouch x = new NamesNoTouch();
        due("3: a map", Made.read(x, "wide 12"), 0);
        due("3: empty", x.count(5), 0);
        due("3: a fault", Made.read(x, "wide 12 "), -17);
        due("3: empty by a fault, too", x.count(5), 0);
        due("3: nothing of it is left", Made.read(x, "river 5"), 1);
    }

    private static void aMapOfAllHundredBytes() {
        String ahead = "love 10 n<10" + Made.times("&n<9", 21) + "&n=";
        due("3: a hundred bytes", (ahead + "1").length(), 100);
        NamesNoTouch x = Made.one("", Made.NAME, 0, 1, 0, 0);
        x.dot(Made.NAME, 0, 1, 0, 5);
        due("3: all of them are read", Made.read(x, ahead + "1"), 0);
        due("7: the last byte counts", x.good(0, 0), 10);
        due("7: the last byte counts", x.good(1, 0), 20);
        isFault(99, ahead + "&");
        isFault(100, "love 1 " + Made.times("n<9&", 23) + "n");
        isFault(100, "love 1 (" + Made.times("n<9&", 22) + "n<10");
        isFault(12, "love 1 " + Made.times("(", 93));
        isFault(12, "love 1 " + Made.times("!", 93));
    }

    private static void anEmptyTapeEndsTooEarly() {
        NamesNoTouch x = new NamesNoTouch();
        due("3: empty", x.map(), -10);
        Made.read(x, "wide 13");
        due("3: empty again", x.map(), -10);
        due("3: the one that held holds", x.told(0), 13);
        due("3: one map", x.count(1), 1);
    }

    private static void tenClausesAtMost() {
        String nine = Made.times("river 5;", 9);
        isMap(nine + "wide 9");
        isMap("love 1 n=1;bore 1 n=1;love 1 n=1;bore 1 n=1;wide 1;wide 2;wide 3;wide 4;wide 5;wide 6");
        isFault(78, nine + "wide 9;");
        isFault(78, nine + "wide 9;wide 9");
        isFault(77, nine + "wide ");
        isFault(72, nine + ";");
        isFault(0, ";");
        isFault(0, ";wide 9");
        isFault(7, "wide 9;");
        isFault(7, "wide 9;;wide 9");
        isFault(6, "wide 9,wide 9");
        isFault(7, "wide 9; wide 9");
        isFault(6, "wide 9 ;wide 9");
        due("3: the tenth clause counts", wideBy(nine + "wide 11"), 11);
    }

    private static int wideBy(String text) {
        NamesNoTouch x = new NamesNoTouch();
        Made.read(x, text);
        return x.told(0);
    }

    private static void cutShort(String text, int least) {
        for (int size = 0; size <= text.length(); size++) {
            if (size < least) {
                isFault(size, text.substring(0, size));
            } else {
                isMap(text.substring(0, size));
            }
        }
    }

    private static void eachClauseCutShort() {
        cutShort("wide 10", 6);
        cutShort("river 10", 7);
        cutShort("love 10 k=10", 11);
        cutShort("bore 10 l>99", 11);
        cutShort("bore 1 !!!!!p<1", 15);
        cutShort("love 5 (((((v=0)))))", 20);
        cutShort("love 5 !(x=0|n=1)", 17);
        isFault(11, "love 5 v=1|");
    }

    private static void eachByteSpoilt() {
        String text = "wide 20;love 10 !(n<1|k=12)&v>3;river 8;bore 1 p=0&x<9|l>2";
        isMap(text);
        for (int i = 0; i < text.length(); i++) {
            isFault(i, text.substring(0, i) + "~" + text.substring(i + 1));
        }
        isFault(text.length(), text + "~");
    }

    private static void oneBlankAheadOfEachPart() {
        isFault(0, " wide 9");
        isFault(4, "wide9");
        isFault(5, "wide  9");
        isFault(6, "wide 9 ");
        isFault(5, "river7");
        isFault(6, "river  7");
        isFault(4, "love7 n=1");
        isFault(6, "love 7n=1");
        isFault(7, "love 7  n=1");
        isFault(7, "love 70n=1");
        isFault(8, "love 7 n =1");
        isFault(9, "love 7 n= 1");
        isFault(10, "love 7 n=1 &n=1");
        isFault(11, "love 7 n=1& n=1");
        isFault(8, "love 7 ! n=1");
        isFault(8, "love 7 ( n=1)");
        isFault(11, "love 7 (n=1 )");
        isFault(4, "bore\t7 n=1");
    }

    private static void oneOrTwoDigits() {
        isFault(5, "wide ");
        isFault(5, "wide -1");
        isFault(5, "wide /");
        isFault(5, "wide :");
        isMap("wide 9");
        isMap("wide 99");
        isFault(7, "wide 990");
        isFault(6, "wide 9:");
        isFault(6, "wide 9/");
        isFault(7, "river 9:");
        isFault(8, "river 999");
        isFault(7, "love 100 n=1");
        isFault(5, "love  n=1");
        isFault(11, "love 1 n=100");
        isFault(9, "love 1 n=");
        isFault(9, "love 1 n=-1");
        isMap("love 1 n=99");
    }

    private static void noZeroAheadOfAnother() {
        isMap("wide 0");
        isFault(6, "wide 00");
        isFault(6, "wide 01");
        isFault(7, "river 09");
        isMap("river 90");
        isFault(6, "love 01 n=1");
        isFault(6, "bore 00 n=1");
        isMap("bore 0 n=0");
        isFault(10, "love 1 n=00");
        isFault(10, "love 1 n=01");
        isMap("love 1 n=10");
    }

    private static void bytesThatAreNoText() {
        isFault(0, "" + (char) 0);
        isFault(0, "" + (char) 127);
        isFault(0, "Wide 9");
        isFault(1, "wIde 9");
        isFault(0, "LOVE 1 n=1");
        isFault(7, "love 1 N=1");
        isFault(7, "love 1 m=1");
        isFault(7, "love 1 1=n");
        isFault(8, "love 1 n~1");
        isFault(9, "love 1 n>=1");
        isFault(9, "love 1 n<>1");
        isFault(9, "love 1 n=n");
        isFault(10, "love 1 n=1\n");
        isFault(10, "love 1 n=1" + (char) 0);
        isFault(6, "wide 9" + (char) 0);
    }

    private static String opened(int mask, int several) {
        StringBuilder signs = new StringBuilder();
        for (int i = 0; i < several; i++) {
            signs.append((mask >> i & 1) == 0 ? '!' : '(');
        }
        return signs.toString();
    }

    private static void fiveOpenOfAnyMixture() {
        for (int mask = 0; mask < 32; mask++) {
            String ends = Made.times(")", Integer.bitCount(mask));
            isMap("bore 3 " + opened(mask, 5) + "n=1" + ends);
        }
        for (int mask = 0; mask < 64; mask++) {
            isFault(12, "bore 3 " + opened(mask, 6) + "n=1" + Made.times(")", Integer.bitCount(mask)));
        }
    }

    private static void aParenthesisIsOpenTillItsEnd() {
        isMap("love 5 (((((n=1)))))&(((((n=1)))))|(((((n=1)))))");
        isMap("love 5 (n=1)&(n=1)&(n=1)&(n=1)&(n=1)&(n=1)");
        isMap("love 5 ((((n=1))))|((((n=1)|(n=1))))");
        isFault(16, "love 5 (n=1&(((((n=1))))))");
        isMap("love 5 (n=1&((((n=1)))))");
        isMap("love 5 ((((n=1)&((n=1)))))");
        isFault(18, "love 5 ((((n=1)&(((n=1))))))");
    }

    private static void aNotIsOpenTillItsFactorEnds() {
        isMap("love 5 !!!!!n=1&!!!!!n=1");
        isMap("love 5 !!!!!n=1|!!!!!n=1");
        isMap("love 5 !n=1&!n=1&!n=1&!n=1&!n=1&!n=1&!n=1");
        isMap("love 5 (!n=1&!!!!n=1)");
        isMap("love 5 !(n=1)|(((((n=1)))))");
        isFault(16, "love 5 !((((n=1&!n=1))))");
        isFault(16, "love 5 !((((n=1|(n=1)))))");
        isFault(20, "love 5 (!!!!n=1&!!!!!n=1)");
        isMap("love 5 !!!!!n=1;love 5 !!!!!n=1");
        isFault(28, "love 5 !!!!!n=1;love 5 !!!!!!n=1");
    }

    private static void aParenthesisMustEnd() {
        isFault(7, "love 5 )");
        isFault(8, "love 5 ()");
        isFault(10, "love 5 n=1)");
        isFault(11, "love 5 (n=1");
        isFault(11, "love 5 (n=1;wide 9");
        isFault(12, "love 5 (n=1))");
        isFault(12, "love 5 (n=1)(n=1)");
        isFault(12, "love 5 (n=1)!n=1");
        isFault(10, "love 5 n=1!");
        isFault(10, "love 5 n=1(");
        isFault(7, "love 5 &n=1");
        isFault(7, "love 5 |n=1");
        isFault(11, "love 5 n=1&&n=1");
        isFault(11, "love 5 n=1|&n=1");
        isFault(11, "love 5 n=1&)");
        isFault(8, "love 5 !)");
        isFault(8, "love 5 !;");
    }

    private static void fiveMapsAtMost() {
        NamesNoTouch x = new NamesNoTouch();
        for (int i = 0; i < 5; i++) {
            due("3: a fault takes no number", Made.read(x, "?"), -10);
            due("3: map " + i, Made.read(x, "wide 1" + (i + 1)), i);
            due("3: it holds", x.told(0), 11 + i);
        }
        due("3: full", Made.read(x, "wide 20"), Made.FULL);
        due("3: the tape stays", x.count(5), 7);
        due("3: the fifth holds", x.told(0), 15);
        due("3: full ahead of a fault", Made.read(x, "?"), Made.FULL);
        due("3: the tape stays", x.count(5), 8);
        due("3: five", x.count(1), 5);
        NamesNoTouch y = new NamesNoTouch();
        for (int i = 0; i < 5; i++) {
            Made.read(y, "wide 20");
        }
        due("3: full ahead of an empty tape's fault", y.map(), Made.FULL);
    }

    private static void aFaultLeavesTheMapThatHeld() {
        NamesNoTouch x = Made.one("wide 12;river 4;love 5 p=0", Made.NAME, 0, 2, 3, 3);
        due("3: a fault at its end", Made.read(x, "wide 20;river 8;love 9 p=0;bore 9"), -10 - 33);
        due("10: wide", x.told(0), 12);
        due("10: river", x.told(1), 4);
        due("7: loved as ahead", x.good(0, Made.RIGHT), 10);
        due("7: not in the river", x.good(0, Made.LEFT), 10);
        due("3: maps", x.count(1), 1);
    }

    private static void theNewestMapHolds() {
        NamesNoTouch x = Made.one("", Made.NAME, 0, 2, 3, 3);
        due("7: without a map", x.good(0, Made.RIGHT), 10);
        Made.read(x, "wide 12;river 4;love 9 p=0");
        due("7: by the first", x.good(0, Made.RIGHT), 14);
        Made.read(x, "bore 3 p=0");
        due("7: by the second alone", x.good(0, Made.RIGHT), 7);
        due("10: wide is not from the first", x.told(0), 24);
        due("10: river is not from the first", x.told(1), 99);
        Made.read(x, "wide 30");
        due("7: no clauses of taste", x.good(0, Made.RIGHT), 10);
    }

    private static void wideIsFrom10To30() {
        for (int n = 0; n <= 99; n++) {
            int want = n < 10 ? 10 : n > 30 ? 30 : n;
            due("10: wide " + n, wideBy("wide " + n), want);
        }
    }

    private static void riverIsTheNumberTold() {
        for (int n = 0; n <= 99; n++) {
            NamesNoTouch x = new NamesNoTouch();
            Made.read(x, "river " + n);
            due("10: river " + n, x.told(1), n);
        }
    }

    private static void theLastNumberHolds() {
        NamesNoTouch x = new NamesNoTouch();
        Made.read(x, "wide 30;river 3;wide 11;river 7;wide 9;love 1 n=1;river 0");
        due("10: the last wide, at least 10", x.told(0), 10);
        due("10: the last river", x.told(1), 0);
        Made.read(x, "wide 5;wide 28;river 99;river 29");
        due("10: the last wide", x.told(0), 28);
        due("10: the last river", x.told(1), 29);
    }

    /** Name 3 is a city with v 9, letters 8, its dot in column 28; asked of it below. */
    private static void isSo(String e, boolean is) {
        NamesNoTouch x = new NamesNoTouch();
        for (int i = 0; i < 3; i++) {
            x.dot(Made.NAME, 0, 1, i, 0);
        }
        x.dot(Made.CITY, 9, 8, 28, 3);
        due("3: " + e, Made.read(x, "love 7 " + e), 0);
        due("7: " + e, x.good(3, Made.BELOW), is ? 17 : 10);
    }

    private static void eachTestAtItsEdges() {
        int[] values = {3, 4, 9, 3, 9, 8};
        for (int i = 0; i < values.length; i++) {
            String asked = "nkvpxl".substring(i, i + 1);
            for (int off = -1; off <= 1; off++) {
                isSo(asked + "<" + (values[i] + off), off > 0);
                isSo(asked + "=" + (values[i] + off), off == 0);
                isSo(asked + ">" + (values[i] + off), off < 0);
            }
            isSo(asked + ">0", true);
            isSo(asked + "<0", false);
            isSo(asked + "<99", true);
            isSo(asked + "=99", false);
            isSo(asked + ">99", false);
        }
    }

    private static void theColumnByThreeIsCut() {
        int[] columns = {0, 1, 2, 3, 5, 6, 26, 27, 29};
        int[] thirds = {0, 0, 0, 1, 1, 2, 8, 9, 9};
        for (int i = 0; i < columns.length; i++) {
            NamesNoTouch x = Made.one("love 1 x=" + thirds[i], Made.NAME, 0, 1, columns[i], 3);
            due("7: column " + columns[i], x.good(0, Made.ABOVE), 11);
        }
    }

    private static void holds(String e, boolean is) {
        NamesNoTouch x = Made.one("bore 4 " + e, Made.NAME, 0, 1, 5, 5);
        due("7: " + e, x.good(0, Made.ABOVE), is ? 6 : 10);
    }

    private static void andBindsMoreThanOr() {
        for (int mask = 0; mask < 8; mask++) {
            boolean p = (mask & 1) != 0;
            boolean q = (mask & 2) != 0;
            boolean r = (mask & 4) != 0;
            String a = p ? YES : NO;
            String b = q ? YES : NO;
            String c = r ? YES : NO;
            holds(a + "|" + b + "&" + c, p || (q && r));
            holds(a + "&" + b + "|" + c, (p && q) || r);
            holds(a + "|" + b + "|" + c, p || q || r);
            holds(a + "&" + b + "&" + c, p && q && r);
            holds("(" + a + "|" + b + ")&" + c, (p || q) && r);
            holds(a + "&(" + b + "|" + c + ")", p && (q || r));
            holds("!" + a + "&" + b, !p && q);
            holds("!" + a + "|" + b, !p || q);
            holds(a + "&!" + b + "|!" + c, (p && !q) || !r);
            holds("!(" + a + "&" + b + ")|" + c, !(p && q) || r);
            holds("!(" + a + "|" + b + "&" + c + ")", !(p || (q && r)));
            holds("!!" + a, p);
            holds("!!!!!" + a, !p);
            holds("!(!(!" + a + "))", !p);
        }
    }

    private static void longChains() {
        holds(Made.times(NO + "|", 22) + YES, true);
        holds(Made.times(NO + "|", 22) + NO, false);
        holds(Made.times(YES + "&", 22) + YES, true);
        holds(Made.times(YES + "&", 22) + NO, false);
        holds(NO + Made.times("&" + YES, 22), false);
        holds(YES + Made.times("|" + NO, 22), true);
        holds(Made.times(NO + "&" + YES + "|", 11) + YES, true);
        holds(Made.times(YES + "|" + NO + "&", 11) + NO, true);
    }

    private static void allThatHoldsTogether() {
        NamesNoTouch x = Made.one("river 6;" + Made.times("bore 99 n=0;", 7) + "wide 9", Made.NAME, 0, 9, 5, 5);
        due("7: the most that it can be bored by", x.good(0, Made.RIGHT), 10 - 7 * 99 - 5);
        due("7: below 0 is laid all the same", Made.read(x, "wide 30;" + Made.times("love 99 n=0;", 7) + "river 5"), 1);
        due("7: the most that it can be loved by", x.good(0, Made.RIGHT), 10 + 7 * 99);
        due("7: the same, with the river", x.good(0, Made.BELOW), 10 + 7 * 99 - 5);
        Made.read(x, "love 0 n=0;bore 0 n=0;love 3 n=1;bore 3 n=1");
        due("7: by 0, and by none", x.good(0, Made.RIGHT), 10);
        Made.read(x, "love 9 n=0;bore 9 n=0;love 9 n=0;bore 1 p=0");
        due("7: love less bore", x.good(0, Made.RIGHT), 18);
    }
}
