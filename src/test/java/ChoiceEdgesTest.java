/** How many can be in, and orders (promises 13 to 20): each edge that the document names. */
public final class ChoiceEdgesTest {
    private static final int NONE = Made.NONE, BAD = Made.BAD, NOWHERE = Made.NOWHERE, UNTOLD = Made.UNTOLD;
    private static final int RIGHT = Made.RIGHT, LEFT = Made.LEFT, ABOVE = Made.ABOVE, BELOW = Made.BELOW;
    private static final int NAME = Made.NAME, COASTAL = Made.COASTAL, SHY = Made.SHY, HARBOUR = Made.HARBOUR;
    private static final int TOLD = Made.TOLD;

    private ChoiceEdgesTest() {
    }

    public static void main(String[] args) {
        withoutDots();
        oneThatFitsNowhere();
        sevenThatFitFarApart();
        mostOfWhatThereIsNot();
        mostIsAheadOfTheScore();
        mostOfSeveralTheGreatestScore();
        mostOfSeveralTheFirstRow();
        mostHasPlacesAheadOfOut();
        oneCellInCommonIsAClash();
        bestOfWhatThereIsNot();
        bestByAScoreOfNothing();
        bestOfSeveralTheFirstRow();
        bestIsNotMost();
        allOfEachSet();
        allOfWrongSets();
        allIsNotHinderedByThoseLaid();
        roomAtItsEdges();
        roomIsWhateverTheMapSays();
        roomByRowsAndClashes();
        movedOfWhatThereIsNot();
        movedByNone();
        movedUpToSix();
        movedNotWhereOneCannotBe();
        movedOfThoseOut();
        movedOfOneThatDoesNotFit();
        takeHasTheFirstOfSeveral();
        inlineAtItsEdges();
        orderAtItsEdges();
        orderOfSeveralTheFirstRow();
        orderByTheScore();
        farByLetters();
        farOfWhatThereIsNot();
        Due.close();
    }

    private static void due(String what, long got, long want) {
        Due.due(what, got, want);
    }

    private static void withoutDots() {
        NamesNoTouch x = new NamesNoTouch();
        due("13: how many", x.most(0), 0);
        due("13: SCORE", x.most(1), 0);
        due("13: name 0", x.most(10), UNTOLD);
        due("14: SCORE", x.best(0), 0);
        due("14: name 0", x.best(10), UNTOLD);
        for (int set = 1; set <= 15; set++) {
            due("15: set " + set, x.all(set), 1);
        }
        due("16: room", x.room(), 10);
        due("17: name 0", x.moved(0), NONE);
        due("18: how many", x.inline(0), 0);
        due("18: SCORE", x.inline(1), 0);
        due("19: how many", x.order(-2), 0);
        due("19: SCORE", x.order(-1), 0);
        for (int k = 0; k < 7; k++) {
            due("19: the " + k + "-th", x.order(k), NOWHERE);
        }
        due("20: name 0", x.far(0), NONE);
    }

    private static void oneThatFitsNowhere() {
        NamesNoTouch x = Made.one("", TOLD, 0, 3, 5, 5);
        due("13: how many", x.most(0), 0);
        due("13: SCORE", x.most(1), 0);
        due("13: where", x.most(10), NOWHERE);
        due("14: SCORE", x.best(0), 0);
        due("14: where", x.best(10), NOWHERE);
        due("15: all places", x.all(15), 0);
        due("16: room", x.room(), NOWHERE);
        due("17: moved", x.moved(0), NOWHERE);
        due("18: how many", x.inline(0), 0);
        due("18: SCORE", x.inline(1), 0);
        due("19: how many", x.order(-2), 0);
        due("19: SCORE", x.order(-1), 0);
        due("19: first", x.order(0), 0);
        due("19: second", x.order(1), NOWHERE);
        due("20: far", x.far(0), NOWHERE);
    }

    private static NamesNoTouch seven() {
        NamesNoTouch x = new NamesNoTouch();
        for (int i = 0; i < 7; i++) {
            x.dot(NAME, 0, 1, 3 * i + 1, 5);
        }
        return x;
    }

    private static void sevenThatFitFarApart() {
        NamesNoTouch x = seven();
        due("13: how many", x.most(0), 7);
        due("13: SCORE", x.most(1), 70);
        due("14: SCORE", x.best(0), 70);
        due("15: above", x.all(4), 1);
        due("16: room", x.room(), 19);
        due("18: how many", x.inline(0), 7);
        due("18: SCORE", x.inline(1), 70);
        due("19: how many", x.order(-2), 7);
        due("19: SCORE", x.order(-1), 70);
        for (int i = 0; i < 7; i++) {
            due("13: where " + i, x.most(10 + i), RIGHT);
            due("14: where " + i, x.best(10 + i), RIGHT);
            due("17: moved " + i, x.moved(i), 0);
            due("19: the " + i + "-th", x.order(i), i);
        }
        due("13: no eighth", x.most(17), UNTOLD);
        due("14: no eighth", x.best(17), UNTOLD);
        due("19: no eighth", x.order(7), UNTOLD);
    }

    private static void mostOfWhatThereIsNot() {
        NamesNoTouch x = Made.one("", NAME, 0, 1, 5, 5);
        for (int what : new int[] {Made.LEAST, Made.LEAST + 9, Made.LEAST + 10, -10, -1, 2, 3, 9, 11, 16, 17,
            Made.GREATEST}) {
            due("13: what " + what, x.most(what), UNTOLD);
        }
        due("13: name 0", x.most(10), RIGHT);
    }

    /** A name and a harbour: the name, below or right, takes what the harbour needs or not. */
    private static NamesNoTouch vying(String map) {
        NamesNoTouch x = Made.one(map, NAME, 0, 3, 5, 5);
        x.dot(HARBOUR, 0, 3, 4, 6);
        return x;
    }

    private static void mostIsAheadOfTheScore() {
        NamesNoTouch x = vying("bore 99 n=1;love 5 p=3");
        due("13: two", x.most(0), 2);
        due("13: though for less", x.most(1), 10 - 89);
        due("13: the name", x.most(10), RIGHT);
        due("13: the harbour", x.most(11), RIGHT);
        due("14: one alone", x.best(0), 15);
        due("14: the name", x.best(10), BELOW);
        due("14: the harbour", x.best(11), NOWHERE);
        NamesNoTouch y = Made.one(Made.times("bore 99 n=0;", 7) + "river 6", NAME, 0, 3, 5, 5);
        due("13: one, for far less than nothing", y.most(0), 1);
        due("13: SCORE", y.most(1), 10 - 693);
        due("13: where it is not in the river", y.most(10), LEFT);
        due("14: SCORE", y.best(0), 0);
    }

    private static void mostOfSeveralTheGreatestScore() {
        NamesNoTouch x = vying("love 3 p=1;love 2 p=2;love 9 p=3");
        due("13: two", x.most(0), 2);
        due("13: SCORE", x.most(1), 23);
        due("13: not right, nor below", x.most(10), LEFT);
        NamesNoTouch y = vying("love 1 p=2;love 12 p=3");
        due("13: SCORE", y.most(1), 21);
        due("13: above", y.most(10), ABOVE);
    }

    private static void mostOfSeveralTheFirstRow() {
        NamesNoTouch x = Made.one("", SHY, 0, 3, 5, 4);
        x.dot(SHY, 0, 3, 6, 6);
        due("13: two", x.most(0), 2);
        due("13: the first above", x.most(10), ABOVE);
        due("13: the second above", x.most(11), ABOVE);
        x.dot(COASTAL, 0, 3, 6, 2);
        Made.read(x, "love 1 n=2&p=3");
        due("13: three", x.most(0), 3);
        due("13: the coastal one below drives the first down", x.most(10), BELOW);
        due("13: and the second, too", x.most(11), BELOW);
        Made.read(x, "love 1 n=2&p=3;love 1 n=0&p=2");
        due("13: of as much, the first row", x.most(10), ABOVE);
        due("13: of as much, the first row", x.most(11), ABOVE);
        due("13: of as much, the first row", x.most(12), RIGHT);
    }

    private static void mostHasPlacesAheadOfOut() {
        NamesNoTouch x = Made.told("", RIGHT, 3, 5, 5);
        x.dot(TOLD, 0, 3, 6, 4);
        x.row(1, BELOW, 1);
        due("13: one of two", x.most(0), 1);
        due("13: the first is in", x.most(10), RIGHT);
        due("13: the second is out", x.most(11), NOWHERE);
        Made.read(x, "bore 1 n=0");
        due("13: now the second is in", x.most(11), BELOW);
        due("13: the first is out", x.most(10), NOWHERE);
        due("13: SCORE", x.most(1), 10);
    }

    /** A name at its right, in columns 6 to 8, and one of one letter below its dot in some column. */
    private static void inByColumn(int column, int in) {
        NamesNoTouch x = Made.told("", RIGHT, 3, 5, 5);
        x.dot(TOLD, 0, 1, column, 4);
        x.row(1, BELOW, 1);
        due("13: how many, " + column, x.most(0), in);
        due("13: SCORE, " + column, x.most(1), 10 * in);
        due("14: SCORE, " + column, x.best(0), 10 * in);
        due("15: all, " + column, x.all(15), in - 1);
        due("16: room, " + column, x.room(), in == 2 ? 10 : NOWHERE);
        due("18: how many, " + column, x.inline(0), in);
        due("19: how many, " + column, x.order(-2), in);
        x.lay(1, BELOW);
        due("17: moved, " + column, x.moved(0), in == 2 ? 0 : NOWHERE);
        x.lift(1);
        x.lay(0, RIGHT);
        due("17: moved the other way round, " + column, x.moved(1), in == 2 ? 0 : NOWHERE);
    }

    private static void oneCellInCommonIsAClash() {
        inByColumn(6, 1);
        inByColumn(8, 1);
        inByColumn(9, 2);
    }

    private static void bestOfWhatThereIsNot() {
        NamesNoTouch x = Made.one("", NAME, 0, 1, 5, 5);
        for (int what : new int[] {Made.LEAST, Made.LEAST + 9, Made.LEAST + 10, -10, -1, 1, 2, 9, 11, 16, 17,
            Made.GREATEST}) {
            due("14: what " + what, x.best(what), UNTOLD);
        }
        due("14: name 0", x.best(10), RIGHT);
    }

    private static void bestByAScoreOfNothing() {
        NamesNoTouch x = Made.one("bore 9 n=0", NAME, 0, 1, 5, 5);
        due("14: 1", x.best(0), 1);
        due("14: in", x.best(10), RIGHT);
        Made.read(x, "bore 10 n=0");
        due("14: 0", x.best(0), 0);
        due("14: a place ahead of out", x.best(10), RIGHT);
        Made.read(x, "bore 10 p=2;bore 11 p<2;bore 12 p=3");
        due("14: 0", x.best(0), 0);
        due("14: the first of 0", x.best(10), ABOVE);
        Made.read(x, "bore 11 n=0");
        due("14: below 0 is out", x.best(0), 0);
        due("14: below 0 is out", x.best(10), NOWHERE);
    }

    private static void bestOfSeveralTheFirstRow() {
        NamesNoTouch x = vying("bore 10 n=1;love 5 n=0&p=3;love 5 n=0&p=1");
        due("14: SCORE", x.best(0), 15);
        due("14: left is the first of as much", x.best(10), LEFT);
        due("14: in for 0", x.best(11), RIGHT);
        NamesNoTouch y = vying("love 10 n=0&p=3");
        due("14: two, or one for as much", y.best(0), 20);
        due("14: the first row has the name right", y.best(10), RIGHT);
        due("14: and the harbour in", y.best(11), RIGHT);
    }

    private static void bestIsNotMost() {
        NamesNoTouch x = vying("love 11 n=0&p=3");
        due("14: one for more", x.best(0), 21);
        due("14: below", x.best(10), BELOW);
        due("14: out", x.best(11), NOWHERE);
        due("13: two for less", x.most(1), 20);
        x.lay(1, RIGHT);
        due("14: whatever is laid", x.best(0), 21);
        due("13: whatever is laid", x.most(0), 2);
    }

    private static void allOfEachSet() {
        for (int place = 0; place < 4; place++) {
            NamesNoTouch x = Made.told("", place, 2, 10, 5);
            for (int set = 1; set <= 15; set++) {
                due("15: at " + place + ", set " + set, x.all(set), set >> place & 1);
            }
        }
        NamesNoTouch x = Made.told("", RIGHT, 2, 10, 5);
        x.dot(TOLD, 0, 2, 10, 8);
        x.row(1, BELOW, 1);
        for (int set = 1; set <= 15; set++) {
            due("15: right and below, set " + set, x.all(set), (set & 9) == 9 ? 1 : 0);
        }
    }

    private static void allOfWrongSets() {
        for (int set : new int[] {Made.LEAST, -1, 0, 16, 31, Made.GREATEST}) {
            due("15: set " + set, new NamesNoTouch().all(set), BAD);
            due("15: set " + set, seven().all(set), BAD);
        }
    }

    private static void allIsNotHinderedByThoseLaid() {
        NamesNoTouch x = vying("");
        x.lay(0, BELOW);
        due("15: right", x.all(1), 1);
        due("15: below", x.all(8), 0);
        due("15: right and below", x.all(9), 1);
        due("15: left and above", x.all(6), 0);
    }

    private static int roomOf(int place, int letters, int column) {
        return Made.told("", place, letters, column, 5).room();
    }

    private static void roomAtItsEdges() {
        due("16: cell 8", roomOf(RIGHT, 1, 7), 10);
        due("16: cell 9", roomOf(RIGHT, 1, 8), 10);
        due("16: cell 10", roomOf(RIGHT, 1, 9), 11);
        due("16: cell 28", roomOf(RIGHT, 1, 27), 29);
        due("16: cell 29", roomOf(RIGHT, 1, 28), 30);
        due("16: none", roomOf(RIGHT, 1, 29), NOWHERE);
        due("16: none of two", roomOf(RIGHT, 2, 28), NOWHERE);
        due("16: above, cell 29", roomOf(ABOVE, 1, 29), 30);
        due("16: above, none", roomOf(ABOVE, 2, 29), NOWHERE);
        due("16: left, the dot is off the sheet", roomOf(LEFT, 3, 29), 29);
        due("16: left, cells 7 to 9", roomOf(LEFT, 3, 10), 10);
        due("16: left, cells 0 to 2", roomOf(LEFT, 3, 3), 10);
        due("16: left, none", roomOf(LEFT, 3, 2), NOWHERE);
        NamesNoTouch x = Made.one("", Made.CITY, 0, 9, 0, 5);
        due("16: below, 14", x.room(), 14);
        due("16: by all places", Made.one("", Made.CITY, 0, 9, 14, 5).room(), 14);
    }

    private static void roomIsWhateverTheMapSays() {
        for (String map : new String[] {"wide 10", "wide 20", "wide 30"}) {
            due("16: " + map, Made.told(map, RIGHT, 3, 20, 5).room(), 24);
        }
        NamesNoTouch x = Made.told("wide 10", RIGHT, 3, 20, 5);
        due("15: by the map's", x.all(1), 0);
        due("10: it stays", x.told(0), 10);
    }

    private static void roomByRowsAndClashes() {
        due("16: below the lowest row", Made.told("", BELOW, 1, 5, 11).room(), NOWHERE);
        due("16: above the highest row", Made.told("", ABOVE, 1, 5, 0).room(), NOWHERE);
        NamesNoTouch x = Made.told("", RIGHT, 3, 5, 5);
        x.dot(COASTAL, 0, 9, 6, 4);
        due("16: right of it, for below of it clashes", x.room(), 16);
        x.row(0, RIGHT, 0);
        x.row(0, LEFT, 1);
        due("16: below of it", x.room(), 15);
        x.dot(HARBOUR, 0, 3, 5, 4);
        due("16: a dot is in the third's cells", x.room(), NOWHERE);
    }

    private static void movedOfWhatThereIsNot() {
        NamesNoTouch x = Made.one("", NAME, 0, 1, 5, 5);
        for (int name : new int[] {Made.LEAST, -1, 1, 7, Made.GREATEST}) {
            due("17: name " + name, x.moved(name), NONE);
        }
        x.lay(0, LEFT);
        due("17: laid", x.moved(0), NOWHERE);
        x.lift(0);
        due("17: alone", x.moved(0), 0);
    }

    private static void movedByNone() {
        NamesNoTouch x = Made.told("", RIGHT, 3, 5, 5);
        x.dot(TOLD, 0, 3, 6, 4);
        x.row(1, BELOW, 1);
        due("17: the other is out", x.moved(0), 0);
        x.lay(1, BELOW);
        due("17: the other can't give way", x.moved(0), NOWHERE);
        x.row(1, ABOVE, 1);
        due("17: now it can", x.moved(0), 1);
        due("17: it is not moved by that", x.of(1, 6), BELOW);
    }

    /** A harbour and coastal ones up to it, each of which drives the next one aside. */
    private static NamesNoTouch row(String map, int several) {
        NamesNoTouch x = Made.one(map, HARBOUR, 0, 3, 5, 6);
        for (int i = 1; i <= several; i++) {
            x.dot(COASTAL, 0, 3, 5 + i, 6 - i);
            x.lay(i, BELOW);
        }
        return x;
    }

    private static void movedUpToSix() {
        for (int several = 0; several <= 6; several++) {
            due("17: " + several + " of them", row("", several).moved(0), several);
        }
        due("17: the last one can't", row("wide 14", 6).moved(0), NOWHERE);
        due("17: the last one just can", row("wide 15", 6).moved(0), 6);
    }

    private static void movedNotWhereOneCannotBe() {
        NamesNoTouch x = Made.one("wide 10", HARBOUR, 0, 3, 7, 5);
        x.dot(NAME, 0, 1, 1, 1);
        due("17: off the sheet", x.moved(0), NOWHERE);
        x.dot(NAME, 0, 1, 9, 5);
        Made.read(x, "wide 30");
        due("17: over a dot", x.moved(0), NOWHERE);
        due("17: others can", x.moved(1), 0);
    }

    private static void movedOfThoseOut() {
        NamesNoTouch x = row("", 2);
        x.lift(1);
        due("17: one that is out stays out", x.moved(0), 0);
        x.lift(2);
        x.lay(1, RIGHT);
        due("17: none need be", x.moved(0), 0);
        due("17: none need be", x.moved(2), 0);
        x.lay(0, RIGHT);
        due("17: another place of its own", x.moved(2), 0);
    }

    private static void movedOfOneThatDoesNotFit() {
        NamesNoTouch x = Made.told("", RIGHT, 3, 5, 5);
        x.dot(NAME, 0, 1, 20, 1);
        x.lay(0, RIGHT);
        due("17: all fit", x.moved(1), 0);
        x.row(0, RIGHT, 0);
        due("17: one may not be there and can nowhere", x.moved(1), NOWHERE);
        x.row(0, ABOVE, 1);
        due("17: it must be moved, too", x.moved(1), 1);
        x.row(0, RIGHT, 1);
        due("17: it may again", x.moved(1), 0);
        x.dot(NAME, 0, 1, 8, 5);
        due("17: a dot is in its cells", x.moved(1), 1);
        NamesNoTouch y = Made.one("", NAME, 0, 3, 8, 5);
        y.dot(NAME, 0, 1, 1, 1);
        y.lay(0, RIGHT);
        Made.read(y, "wide 11");
        due("17: off the narrower sheet", y.moved(1), 1);
        Made.read(y, "wide 12");
        due("17: on it", y.moved(1), 0);
    }

    private static void takeHasTheFirstOfSeveral() {
        NamesNoTouch x = vying("");
        due("18: both", x.inline(0), 2);
        Made.read(x, "love 1 p=3");
        due("18: below is greater", x.inline(0), 1);
        due("18: SCORE", x.inline(1), 11);
        Made.read(x, "love 1 p=3;love 1 p=1");
        due("18: left is the first of as much", x.inline(0), 2);
        due("18: SCORE", x.inline(1), 21);
        Made.read(x, "bore 40 n=0;bore 1 p<3");
        due("18: below 0, the greatest", x.inline(0), 1);
        due("18: SCORE", x.inline(1), -30);
    }

    private static void inlineAtItsEdges() {
        NamesNoTouch x = vying("");
        x.lay(0, BELOW);
        due("18: all are out ahead of it", x.inline(0), 2);
        due("18: nothing is laid by it", x.told(5), 1);
        for (int what : new int[] {Made.LEAST, -1, 2, 10, Made.GREATEST}) {
            due("18: what " + what, x.inline(what), UNTOLD);
        }
        NamesNoTouch y = Made.told("", RIGHT, 3, 5, 5);
        due("18: at its right, there being no other place", y.inline(0), 1);
        y.dot(TOLD, 0, 3, 6, 4);
        y.row(1, BELOW, 1);
        due("18: out, if it is free nowhere", y.inline(0), 1);
        due("18: SCORE", y.inline(1), 10);
    }

    private static void orderAtItsEdges() {
        NamesNoTouch x = vying("");
        for (int k : new int[] {Made.LEAST, -10, -3, 7, 8, 10, Made.GREATEST}) {
            due("19: k " + k, x.order(k), UNTOLD);
        }
        due("19: how many", x.order(-2), 2);
        due("19: SCORE", x.order(-1), 20);
        due("19: first", x.order(0), 0);
        due("19: second", x.order(1), 1);
        for (int k = 2; k < 7; k++) {
            due("19: there are fewer than " + (k + 1), x.order(k), NOWHERE);
        }
        x.lay(0, BELOW);
        due("19: whatever is laid", x.order(-2), 2);
    }

    private static String ordered(NamesNoTouch x) {
        StringBuilder order = new StringBuilder();
        for (int k = 0; k < x.count(0); k++) {
            order.append(x.order(k));
        }
        return order.toString();
    }

    private static void orderIs(String what, NamesNoTouch x, String want) {
        String got = ordered(x);
        due("19: " + what + ", " + got + " and not " + want, got.equals(want) ? 1 : 0, 1);
    }

    private static void orderOfSeveralTheFirstRow() {
        orderIs("all alike", seven(), "0123456");
        NamesNoTouch x = seven();
        for (int i = 0; i < 7; i++) {
            x.lay(i, BELOW);
        }
        Made.read(x, "wide 10");
        orderIs("some fit nowhere", x, "0123456");
        orderIs("the harbour must be ahead", vying("love 1 p=3"), "10");
        NamesNoTouch y = vying("love 1 p=3");
        y.dot(NAME, 0, 1, 20, 1);
        orderIs("the third where it may", y, "102");
        NamesNoTouch z = Made.told("love 1 p=3", RIGHT, 3, 5, 5);
        z.row(0, BELOW, 1);
        z.dot(HARBOUR, 0, 3, 4, 6);
        due("19: both", z.order(-2), 2);
        orderIs("the first at its right, behind the harbour", z, "10");
        NamesNoTouch w = Made.told("love 1 p=3", RIGHT, 3, 5, 5);
        w.row(0, BELOW, 1);
        w.dot(TOLD, 0, 3, 20, 1);
        w.dot(HARBOUR, 0, 3, 4, 6);
        due("19: two of three", w.order(-2), 2);
        orderIs("one that is out by any, where it comes first", w, "120");
    }

    private static void orderByTheScore() {
        NamesNoTouch x = Made.told("love 2 n=1", RIGHT, 3, 5, 5);
        x.dot(TOLD, 0, 3, 6, 4);
        x.row(1, BELOW, 1);
        due("19: one is in by any", x.order(-2), 1);
        due("19: the greatest SCORE", x.order(-1), 12);
        orderIs("the dearer one ahead", x, "10");
        Made.read(x, "bore 99 n<9");
        due("19: one is in, for less than nothing", x.order(-2), 1);
        due("19: SCORE", x.order(-1), -89);
        orderIs("of as much, the first", x, "01");
    }

    private static void farByLetters() {
        int[] right = {1 + 0, 1 + 1, 1 + 1, 1 + 2, 1 + 2, 1 + 3, 1 + 3, 1 + 4, 1 + 4};
        int[] left = {1, 1, 2, 2, 3, 3, 4, 4, 5};
        for (int letters = 1; letters <= 9; letters++) {
            int[] want = {right[letters - 1], left[letters - 1], right[letters - 1], right[letters - 1]};
            for (int place = 0; place < 4; place++) {
                NamesNoTouch x = Made.one("", NAME, 0, letters, 12, 5);
                due("20: out", x.far(0), NOWHERE);
                x.lay(0, place);
                due("20: " + letters + " at " + place, x.far(0), want[place]);
            }
        }
        NamesNoTouch x = Made.one("wide 30", Made.CITY, 0, 9, 15, 5);
        x.lay(0, RIGHT);
        due("20: fourteen, right", x.far(0), 8);
        x.lay(0, LEFT);
        due("20: fourteen, left", x.far(0), 7);
    }

    private static void farOfWhatThereIsNot() {
        NamesNoTouch x = Made.one("", NAME, 0, 1, 5, 5);
        for (int name : new int[] {Made.LEAST, -1, 1, 7, Made.GREATEST}) {
            due("20: name " + name, x.far(name), NONE);
        }
        x.lay(0, RIGHT);
        due("20: laid", x.far(0), 1);
        x.lift(0);
        due("20: out again", x.far(0), NOWHERE);
    }
}
