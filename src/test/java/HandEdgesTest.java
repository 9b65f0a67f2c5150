/** Seen, odds, plans, books, acts and the image (promises 21 to 35): each edge that the document names. */
public final class HandEdgesTest {
    private static final int NONE = Made.NONE, FULL = Made.FULL, NOWHERE = Made.NOWHERE, UNTOLD = Made.UNTOLD;
    private static final int RIGHT = Made.RIGHT, LEFT = Made.LEFT, ABOVE = Made.ABOVE, BELOW = Made.BELOW;
    private static final int OUT = Made.OUT, NAME = Made.NAME, SHY = Made.SHY, TOLD = Made.TOLD;
    private static final int LEAST = Made.LEAST, GREATEST = Made.GREATEST;
    private static final long NO = Long.MIN_VALUE;
    private static final int[] NAMES_OUTSIDE = {LEAST, -1, 2, 7, GREATEST};

    private HandEdgesTest() {
    }

    public static void main(String[] args) {
        seenAtItsEdges();
        fiveSeenAtMost();
        noneSeenThen();
        canByNothingSeen();
        canByEachCell();
        canBeOut();
        canByTheOthers();
        canByNothingThatWasSeenAhead();
        canOfWhatThereIsNot();
        firmByNothingSeen();
        firmAtTheThirdsOfV();
        firmByNone();
        firmOfWhatThereIsNot();
        oddsFromNoneToAll();
        oddsOfWhatThereIsNot();
        meanOfNone();
        meanInLowestTerms();
        meanBelowNothing();
        planAtItsEdges();
        eightOfThePlanAtMost();
        doneByNoRows();
        doneOneBehindTheOther();
        doneOfWhatThereIsNot();
        bookAtItsEdges();
        eightOfTheBookAtMost();
        lookedAtTheFirst();
        actsThatThereAreNot();
        actsThatWrap();
        actsOfTheSixth();
        traceAtItsEdges();
        kindsTheyAreTakenFor();
        noImage();
        imageOfNothing();
        imageOfAll();
        imageNotOfTheTrace();
        imageStaysAndIsTakenAnew();
        undoGivesRoomAgain();
        countsAtTheirEdges();
        Due.close();
    }

    private static void due(String what, long got, long want) {
        Due.due(what, got, want);
    }

    private static NamesNoTouch two() {
        NamesNoTouch x = Made.one("", NAME, 0, 3, 10, 5);
        x.dot(SHY, 9, 4, 10, 8);
        return x;
    }

    private static void seenAtItsEdges() {
        NamesNoTouch x = new NamesNoTouch();
        for (int column : new int[] {LEAST, -2, 30, GREATEST}) {
            due("21: column " + column, x.see(column, 0, true), NONE);
        }
        for (int row : new int[] {LEAST, -1, 12, GREATEST}) {
            due("21: row " + row, x.see(0, row, true), NONE);
        }
        due("21: none came", x.count(2), 0);
        due("21: the first cell of all", x.see(0, 0, true), 1);
        due("21: the last cell of all", x.see(29, 11, false), 2);
        due("21: the same again", x.see(29, 11, true), 3);
    }

    private static void fiveSeenAtMost() {
        NamesNoTouch x = new NamesNoTouch();
        for (int i = 1; i <= 5; i++) {
            due("21: seen", x.see(i, i, true), i);
        }
        due("21: a sixth", x.see(6, 6, true), FULL);
        due("21: a column that is none ahead of full", x.see(30, 6, true), NONE);
        due("21: a row that is none ahead of full", x.see(6, 12, true), NONE);
        due("35: five", x.count(2), 5);
    }

    private static void noneSeenThen() {
        NamesNoTouch x = new NamesNoTouch();
        due("21: none to forget", x.see(-1, 0, true), 0);
        for (int row : new int[] {LEAST, -1, 0, 12, GREATEST}) {
            for (int i = 0; i < 5; i++) {
                x.see(1, 1, true);
            }
            due("21: whatever the row", x.see(-1, row, row > 0), 0);
            due("35: none", x.count(2), 0);
            due("21: the first again", x.see(1, 1, true), 1);
            x.see(-1, 0, false);
        }
    }

    private static void canByNothingSeen() {
        NamesNoTouch x = Made.one("", NAME, 0, 3, 10, 5);
        due("22: any place, or out", x.can(0), 31);
        x.lay(0, RIGHT);
        due("22: laid or not", x.can(0), 31);
    }

    private static void canSeeing(int column, int row, int bits) {
        NamesNoTouch x = two();
        x.see(column, row, true);
        due("22: a cell in " + column + " " + row, x.can(0), bits);
        NamesNoTouch y = two();
        y.see(column, row, false);
        due("22: none in " + column + " " + row, y.can(0), 31 - bits);
    }

    private static void canByEachCell() {
        canSeeing(10, 5, 0);
        canSeeing(11, 5, 1);
        canSeeing(13, 5, 1);
        canSeeing(14, 5, 0);
        canSeeing(9, 5, 2);
        canSeeing(7, 5, 2);
        canSeeing(6, 5, 0);
        canSeeing(10, 4, 4);
        canSeeing(12, 4, 4);
        canSeeing(13, 4, 0);
        canSeeing(9, 4, 0);
        canSeeing(10, 6, 8);
        canSeeing(12, 6, 8);
        canSeeing(13, 6, 0);
        canSeeing(0, 0, 0);
        canSeeing(29, 11, 0);
    }

    private static void canBeOut() {
        NamesNoTouch x = two();
        x.lay(0, RIGHT);
        x.see(11, 5, false);
        due("22: not where it is", x.can(0), 30);
        x.see(7, 5, false);
        x.see(10, 4, false);
        x.see(10, 6, false);
        due("22: out alone", x.can(0), 16);
        x.see(0, 0, true);
        due("22: none, by five", x.can(0), 0);
    }

    private static void canByTheOthers() {
        NamesNoTouch x = two();
        x.lay(1, ABOVE);
        x.see(10, 7, true);
        due("22: another is there", x.can(0), 31);
        due("22: it is there by its place", x.can(1), 4);
        x.see(11, 7, false);
        due("22: one alone is", x.can(0), 31);
        x.lift(1);
        due("22: none is there", x.can(0), 0);
        due("22: where it may not be, too", Made.one("", Made.HARBOUR, 0, 1, 5, 5).can(0), 31);
    }

    private static void canByNothingThatWasSeenAhead() {
        NamesNoTouch x = Made.one("", NAME, 0, 1, 1, 0);
        x.lay(0, LEFT);
        for (int i = 0; i < 5; i++) {
            x.see(i, 9, true);
        }
        due("22: by five", x.can(0), 0);
        x.see(-1, 0, true);
        due("22: by none", x.can(0), 31);
        due("23: by none", x.firm(0, 0), 10);
        for (int i = 1; i <= 5; i++) {
            x.see(9, i, false);
            due("22: by " + i + ", and not by those ahead", x.can(0), 31);
            due("23: by " + i + ", and not by those ahead", x.firm(0, 0), 10);
        }
        NamesNoTouch y = Made.one("", NAME, 0, 1, 1, 0);
        y.lay(0, LEFT);
        for (int i = 1; i <= 5; i++) {
            y.see(9, i, false);
            due("22: the first cell of all is not seen, " + i, y.can(0), 31);
        }
    }

    private static void canOfWhatThereIsNot() {
        NamesNoTouch x = two();
        for (int name : NAMES_OUTSIDE) {
            due("22: name " + name, x.can(name), NONE);
        }
        due("22: none at all", new NamesNoTouch().can(0), NONE);
    }

    private static void firmByNothingSeen() {
        NamesNoTouch x = two();
        due("23: all ten", x.firm(1, 0), 10);
        due("23: from 0 on", x.firm(1, 1), 0);
        x.see(10, 7, false);
        due("23: out by any v", x.firm(1, 0), 10);
        x.see(10, 7, true);
        due("23: there and not there", x.firm(1, 0), 0);
    }

    private static void firmAtTheThirdsOfV() {
        NamesNoTouch x = two();
        x.lay(1, BELOW);
        x.see(10, 9, true);
        due("23: the first cell is there by all", x.firm(1, 0), 10);
        x.see(11, 9, true);
        due("23: the second by v 0 to 8", x.firm(1, 0), 9);
        x.see(-1, 0, true);
        x.see(12, 9, true);
        due("23: the third by v 0 to 5", x.firm(1, 0), 6);
        x.see(-1, 0, true);
        x.see(13, 9, true);
        due("23: the fourth by v 0 to 2", x.firm(1, 0), 3);
        x.see(-1, 0, true);
        x.see(11, 9, false);
        due("23: no second by v 9", x.firm(1, 0), 1);
        due("23: the least is the greatest", x.firm(1, 1), 9);
        x.see(-1, 0, true);
        x.see(13, 9, false);
        due("23: no fourth by v 3 to 9", x.firm(1, 0), 7);
        due("23: the least", x.firm(1, 1), 3);
        due("23: its own v stays", x.of(1, 1), 9);
        due("23: another's v is nothing to it", x.firm(0, 0), 10);
    }

    private static void firmByNone() {
        NamesNoTouch x = two();
        x.see(0, 0, true);
        due("23: by none", x.firm(0, 0), 0);
        due("23: the least of none", x.firm(0, 1), NOWHERE);
    }

    private static void firmOfWhatThereIsNot() {
        NamesNoTouch x = two();
        for (int name : NAMES_OUTSIDE) {
            due("23: name " + name, x.firm(name, 0), NONE);
        }
        for (int what : new int[] {LEAST, -1, 2, GREATEST}) {
            due("23: what " + what, x.firm(1, what), NONE);
        }
    }

    private static void odds(NamesNoTouch x, int name, long above, long below) {
        due("24: above the line", x.odds(name, 0), above);
        due("24: below the line", x.odds(name, 1), below);
    }

    private static void oddsFromNoneToAll() {
        odds(Made.one("", NAME, 0, 1, 5, 5), 0, 1, 1);
        odds(Made.one("", Made.HARBOUR, 0, 1, 5, 5), 0, 1, 1);
        odds(Made.one("", Made.HARBOUR, 0, 1, 29, 5), 0, 0, 1);
        odds(Made.one("", NAME, 0, 1, 29, 5), 0, 0, 1);
        odds(Made.one("", NAME, 0, 3, 23, 5), 0, 1, 4);
        odds(Made.one("", NAME, 0, 3, 0, 0), 0, 1, 2);
        odds(Made.one("", NAME, 0, 3, 0, 5), 0, 3, 4);
        odds(Made.one("", SHY, 0, 3, 5, 0), 0, 1, 2);
        NamesNoTouch x = Made.told("", RIGHT, 3, 5, 5);
        x.row(0, LEFT, 1);
        x.row(0, ABOVE, 1);
        odds(x, 0, 1, 1);
        x.dot(NAME, 0, 1, 6, 5);
        odds(x, 0, 2, 3);
        x.dot(NAME, 0, 1, 3, 5);
        odds(x, 0, 1, 3);
        x.dot(NAME, 0, 1, 7, 4);
        odds(x, 0, 0, 1);
    }

    private static void oddsOfWhatThereIsNot() {
        NamesNoTouch x = two();
        for (int name : NAMES_OUTSIDE) {
            due("24: name " + name, x.odds(name, 0), NO);
        }
        for (int part : new int[] {LEAST, -1, 2, GREATEST}) {
            due("24: part " + part, x.odds(0, part), NO);
        }
        NamesNoTouch y = Made.one("", TOLD, 0, 1, 5, 5);
        odds(y, 0, NO, NO);
        y.row(0, BELOW, 1);
        odds(y, 0, 1, 1);
    }

    private static void mean(NamesNoTouch x, long above, long below) {
        due("25: above the line", x.mean(0), above);
        due("25: below the line", x.mean(1), below);
    }

    private static void meanOfNone() {
        mean(new NamesNoTouch(), NO, NO);
        NamesNoTouch x = two();
        mean(x, NO, NO);
        x.lay(0, RIGHT);
        mean(x, 10, 1);
        for (int part : new int[] {LEAST, -1, 2, GREATEST}) {
            due("25: part " + part, x.mean(part), NO);
        }
        x.lift(0);
        mean(x, NO, NO);
    }

    private static NamesNoTouch sevenLaid() {
        NamesNoTouch x = new NamesNoTouch();
        for (int i = 0; i < 7; i++) {
            x.dot(NAME, i, 1, 3 * i, 5);
            x.lay(i, RIGHT);
        }
        return x;
    }

    private static void meanBy(String map, long above, long below) {
        NamesNoTouch x = sevenLaid();
        Made.read(x, map);
        mean(x, above, below);
    }

    private static void meanInLowestTerms() {
        meanBy("love 1 n=0", 71, 7);
        meanBy("love 7 n=0", 11, 1);
        meanBy("bore 70 n=0", 0, 1);
        NamesNoTouch x = sevenLaid();
        x.lift(6);
        Made.read(x, "love 3 n=0");
        mean(x, 21, 2);
        Made.read(x, "love 4 n=0");
        mean(x, 32, 3);
        Made.read(x, "love 6 n=0");
        mean(x, 11, 1);
    }

    private static void meanBelowNothing() {
        meanBy("bore 71 n=0", -1, 7);
        meanBy("bore 84 n=0", -2, 1);
        NamesNoTouch x = sevenLaid();
        x.lift(6);
        Made.read(x, "bore 64 n=0");
        mean(x, -2, 3);
        Made.read(x, "bore 63 n=0");
        mean(x, -1, 2);
        NamesNoTouch y = Made.one("river 11;" + Made.times("bore 99 n=0;", 7) + "wide 9", NAME, 0, 1, 5, 5);
        y.lay(0, BELOW);
        mean(y, -683, 1);
    }

    private static void planAtItsEdges() {
        NamesNoTouch x = two();
        for (int name : new int[] {LEAST, -2, 2, 7, GREATEST}) {
            due("26: name " + name, x.plan(name, 0), NONE);
        }
        for (int place : new int[] {LEAST, -1, 5, GREATEST}) {
            due("26: place " + place, x.plan(0, place), NONE);
        }
        due("35: none came", x.count(3), 0);
        due("26: none to forget", x.plan(-1, 5), 0);
        due("26: place 0", x.plan(0, 0), 1);
        due("26: place 4", x.plan(1, 4), 2);
        due("26: none at all", new NamesNoTouch().plan(0, 0), NONE);
        due("26: none then, without dots", new NamesNoTouch().plan(-1, 0), 0);
    }

    private static void eightOfThePlanAtMost() {
        NamesNoTouch x = two();
        for (int place : new int[] {LEAST, -1, 0, 4, 5, GREATEST}) {
            for (int i = 1; i <= 8; i++) {
                due("26: row " + i, x.plan(i & 1, OUT), i);
            }
            due("26: a ninth", x.plan(0, 0), FULL);
            due("26: name ahead of full", x.plan(2, 0), NONE);
            due("26: place ahead of full", x.plan(0, 5), NONE);
            due("35: eight", x.count(3), 8);
            due("26: none then, whatever the place", x.plan(-1, place), 0);
            due("35: none", x.count(3), 0);
        }
    }

    private static void doneByNoRows() {
        due("27: without dots", new NamesNoTouch().done(0), 0);
        due("27: without dots", new NamesNoTouch().done(1), 0);
        NamesNoTouch x = two();
        due("27: all out", x.done(0), 0);
        x.lay(0, RIGHT);
        due("27: as they are", x.done(0), 1);
        due("27: as they are", x.done(1), 10);
    }

    private static void doneOneBehindTheOther() {
        NamesNoTouch x = Made.one("love 1 p=1;love 2 p=2;love 3 p=3", NAME, 0, 3, 10, 5);
        x.dot(NAME, 0, 3, 10, 7);
        x.plan(0, BELOW);
        due("27: laid", x.done(1), 13);
        x.plan(1, ABOVE);
        due("27: passed over, the first is there", x.done(1), 13);
        x.plan(0, BELOW);
        due("27: the same again", x.done(1), 13);
        x.plan(0, ABOVE);
        due("27: moved", x.done(1), 12);
        x.plan(1, ABOVE);
        due("27: free then", x.done(1), 24);
        x.plan(0, BELOW);
        due("27: passed over, it stays above", x.done(1), 24);
        x.plan(0, OUT);
        due("27: out", x.done(1), 12);
        due("27: how many", x.done(0), 1);
        x.plan(0, OUT);
        due("27: out again, by the eighth", x.done(1), 12);
        due("27: nothing is laid by it", x.told(2), 0);
        x.plan(-1, 0);
        x.lay(1, ABOVE);
        x.plan(0, BELOW);
        due("27: passed over by what is laid", x.done(0), 1);
        x.plan(1, OUT);
        x.plan(0, BELOW);
        due("27: free, that being out", x.done(1), 13);
        due("27: it is laid all the same", x.of(1, 6), ABOVE);
    }

    private static void doneOfWhatThereIsNot() {
        for (int what : new int[] {LEAST, -1, 2, 10, GREATEST}) {
            due("27: what " + what, two().done(what), UNTOLD);
        }
    }

    private static void bookAtItsEdges() {
        NamesNoTouch x = two();
        for (int name : new int[] {LEAST, -2, 2, 7, GREATEST}) {
            due("28: name " + name, x.book(name, 0), NONE);
        }
        for (int place : new int[] {LEAST, -1, 5, GREATEST}) {
            due("28: place " + place, x.book(0, place), NONE);
        }
        due("35: none came", x.count(4), 0);
        due("28: none to forget", x.book(-1, 5), 0);
        due("28: place 0", x.book(0, 0), 1);
        due("28: place 4", x.book(1, 4), 2);
        due("28: none at all", new NamesNoTouch().book(0, 0), NONE);
        due("28: none then, without dots", new NamesNoTouch().book(-1, 0), 0);
    }

    private static void eightOfTheBookAtMost() {
        NamesNoTouch x = two();
        for (int place : new int[] {LEAST, -1, 0, 4, 5, GREATEST}) {
            for (int i = 1; i <= 8; i++) {
                due("28: row " + i, x.book(i & 1, i == 8 ? 0 : OUT), i);
            }
            due("28: a ninth", x.book(0, 0), FULL);
            due("28: name ahead of full", x.book(2, 0), NONE);
            due("28: place ahead of full", x.book(0, 5), NONE);
            due("35: eight", x.count(4), 8);
            due("29: the eighth is otherwise", x.looked(), 7);
            due("28: none then, whatever the place", x.book(-1, place), 0);
            due("35: none", x.count(4), 0);
            due("29: none", x.looked(), NOWHERE);
        }
    }

    private static void lookedAtTheFirst() {
        due("29: without dots", new NamesNoTouch().looked(), NOWHERE);
        NamesNoTouch x = two();
        for (int place = 0; place <= 4; place++) {
            x.book(0, place);
        }
        due("29: out", x.looked(), 0);
        for (int place = 0; place < 4; place++) {
            x.lay(0, place);
            due("29: the first otherwise", x.looked(), place == 0 ? 1 : 0);
            x.book(-1, 0);
            x.book(0, place);
            due("29: so", x.looked(), NOWHERE);
            x.book(0, OUT);
            due("29: not out", x.looked(), 1);
            x.book(-1, 0);
            x.book(0, 0);
            x.book(0, 1);
        }
    }

    private static NamesNoTouch allKinds(int shift) {
        NamesNoTouch x = new NamesNoTouch();
        for (int i = 0; i < 7; i++) {
            x.dot((i + shift) % 7, 9 - i, 1, i, 0);
        }
        return x;
    }

    private static void actsThatThereAreNot() {
        NamesNoTouch x = two();
        for (int name : NAMES_OUTSIDE) {
            x.act(0, 0, 0);
            due("30: name " + name, x.act(name, 0, 5), 0);
            due("31: no trace then", x.trace(0), NONE);
            due("35: none ran", x.count(6), 0);
        }
        for (int act : new int[] {LEAST, -1, 3, GREATEST}) {
            x.act(0, 2, 0);
            due("30: act " + act, x.act(1, act, 5), 0);
            due("31: no trace then", x.trace(0), NONE);
            due("35: none ran", x.count(6), 0);
        }
        due("30: none at all", new NamesNoTouch().act(0, 0, 5), 0);
    }

    /** Of name 0 with v 9: what it answers to the greatest and the least int. */
    private static void wraps(int kind, int act, int ofGreatest, int ofLeast) {
        NamesNoTouch x = Made.one("", kind, 9, 1, 0, 0);
        due("30: kind " + kind + ", act " + act + ", the greatest", x.act(0, act, GREATEST), ofGreatest);
        due("30: kind " + kind + ", act " + act + ", the least", x.act(0, act, LEAST), ofLeast);
    }

    private static void actsThatWrap() {
        wraps(NAME, 0, GREATEST, LEAST);
        wraps(NAME, 1, GREATEST - 9, GREATEST - 8);
        wraps(NAME, 2, -20, -18);
        wraps(Made.LARGE, 0, GREATEST - 2, LEAST);
        wraps(Made.LARGE, 1, GREATEST - 11, GREATEST - 8);
        wraps(Made.LARGE, 2, -24, -18);
        wraps(Made.COASTAL, 0, GREATEST, LEAST);
        wraps(Made.COASTAL, 1, LEAST + 10, LEAST + 9);
        wraps(Made.COASTAL, 2, 20, 18);
        wraps(SHY, 0, GREATEST, LEAST);
        wraps(SHY, 1, GREATEST - 9, GREATEST - 8);
        wraps(SHY, 2, -20 ^ 7, -18 ^ 7);
        wraps(Made.CITY, 0, GREATEST - 2, LEAST);
        wraps(Made.CITY, 1, GREATEST - 11, GREATEST - 8);
        wraps(Made.CITY, 2, -30 + 6, -24 + 6);
        wraps(Made.HARBOUR, 0, GREATEST, LEAST);
        wraps(Made.HARBOUR, 1, LEAST + 10, LEAST + 9);
        wraps(Made.HARBOUR, 2, 20, 18);
        wraps(TOLD, 0, GREATEST, LEAST);
        wraps(TOLD, 1, GREATEST, LEAST);
        wraps(TOLD, 2, -2 ^ 7, 0 ^ 7);
        NamesNoTouch x = two();
        due("30: x and i wrap", x.act(1, 0, GREATEST), LEAST);
        due("30: twice wraps", x.act(0, 2, 1 << 30), LEAST);
        NamesNoTouch y = Made.one("", NAME, 0, 1, 0, 0);
        y.dot(Made.COASTAL, 0, 1, 1, 0);
        due("30: the least turned is the least", y.act(1, 1, GREATEST), LEAST);
        NamesNoTouch z = Made.one("", Made.LARGE, 0, 1, 0, 0);
        due("30: thrice wraps", z.act(0, 0, 715827883), LEAST + 1);
    }

    private static void actsOfTheSixth() {
        NamesNoTouch x = allKinds(1);
        int[] kinds = {1, 2, 3, 4, 5, 6, 0};
        for (int i = 0; i < 7; i++) {
            due("5: kind", x.of(i, 0), kinds[i]);
        }
        due("30: the sixth, a NAME", x.act(6, 0, 10), 16);
        due("30: the fifth, a TOLD one", x.act(5, 1, 10), 15);
        due("30: the fourth, a HARBOUR", x.act(4, 0, 10), 14 ^ 4);
        due("30: the third, a CITY", x.act(3, 2, 10), (27 + 3 - 6) * 2 + 6 + 3);
        NamesNoTouch y = allKinds(0);
        due("30: the sixth, a TOLD one", y.act(6, 2, 10), ((16 - 3 + 3) * 2) ^ 7);
    }

    private static void traced(NamesNoTouch x, int name, int act, int... bodies) {
        x.act(name, act, 1);
        due("35: how many ran", x.count(6), bodies.length);
        for (int i = 0; i < 25; i++) {
            due("31: body " + i, x.trace(i), i < bodies.length ? bodies[i] : NONE);
        }
    }

    private static void traceAtItsEdges() {
        NamesNoTouch x = allKinds(0);
        for (int i : new int[] {LEAST, -1, 0, 1, 19, 20, 21, GREATEST}) {
            due("31: none ran yet, " + i, x.trace(i), NONE);
        }
        traced(x, 4, 2, 41, 3, 2, 11, 1, 11, 1);
        traced(x, 0, 0, 1);
        traced(x, 6, 2, 31, 3, 61, 2, 1);
        traced(x, 5, 2, 3, 21, 2, 51, 1);
        traced(x, 2, 2, 3, 21, 2, 1);
        traced(x, 3, 2, 31, 3, 2, 1);
        traced(x, 1, 2, 3, 2, 11, 1);
        traced(x, 7, 2);
        for (int i : new int[] {LEAST, -1, 0, GREATEST}) {
            due("31: none ran by it, " + i, x.trace(i), NONE);
        }
    }

    private static void kindsTheyAreTakenFor() {
        NamesNoTouch x = allKinds(0);
        int[] above = {-1, 0, 0, 0, 1, 2, 3};
        for (int kind = 0; kind < 7; kind++) {
            for (int k = 0; k < 7; k++) {
                boolean is = k == kind || k == 0 || k == above[kind];
                due("32: " + kind + " as " + k, x.as(kind, k), is ? 9 - kind : -6);
            }
            for (int k : new int[] {LEAST, -1, 7, GREATEST}) {
                due("32: as " + k, x.as(kind, k), NONE);
            }
        }
        for (int name : new int[] {LEAST, -1, 7, GREATEST}) {
            due("32: name " + name, x.as(name, 0), NONE);
        }
        due("32: v 0", Made.one("", NAME, 0, 1, 0, 0).as(0, 0), 0);
        due("32: none at all", new NamesNoTouch().as(0, 0), NONE);
    }

    private static void noImage() {
        NamesNoTouch x = two();
        due("34: none", x.undo(), Made.STATE);
        due("34: nothing came of it", x.count(0), 2);
    }

    private static void imageOfNothing() {
        NamesNoTouch x = new NamesNoTouch();
        due("33: no names", x.image(), 0);
        due("34: no names", x.undo(), 0);
        x.dot(NAME, 0, 1, 0, 0);
        Made.read(x, "wide 11;river 5");
        due("34: no names again", x.undo(), 0);
        due("35: no dots", x.count(0), 0);
        due("35: no map", x.count(1), 0);
        due("10: wide", x.told(0), 24);
        due("10: river", x.told(1), 99);
        due("4: the place is empty again", x.dot(SHY, 0, 1, 0, 0), 0);
        due("5: of its new kind", x.of(0, 0), SHY);
    }

    private static NamesNoTouch filled() {
        NamesNoTouch x = Made.one("wide 12;river 2;love 3 n=0", NAME, 0, 1, 0, 0);
        x.dot(TOLD, 3, 2, 4, 4);
        x.row(1, ABOVE, 7);
        x.lay(1, ABOVE);
        x.see(4, 3, true);
        x.plan(0, RIGHT);
        x.plan(1, OUT);
        x.book(1, ABOVE);
        Made.feed(x, "wide 1");
        return x;
    }

    private static void spoil(NamesNoTouch x) {
        x.feed('7');
        x.map();
        x.dot(NAME, 0, 1, 9, 9);
        x.lift(1);
        x.row(1, ABOVE, 0);
        x.row(1, BELOW, 5);
        x.lay(0, BELOW);
        x.see(9, 9, true);
        x.plan(-1, 0);
        x.book(0, LEFT);
        Made.feed(x, "bo");
    }

    private static void imageOfAll() {
        NamesNoTouch x = filled();
        due("33: two names", x.image(), 2);
        spoil(x);
        due("34: two names", x.undo(), 2);
        int[] counts = {2, 1, 1, 2, 1, 6};
        for (int what = 0; what < counts.length; what++) {
            due("34: count " + what, x.count(what), counts[what]);
        }
        int[] told = {12, 2, 1, 10, 0, 2};
        for (int what = 0; what < told.length; what++) {
            due("34: told " + what, x.told(what), told[what]);
        }
        due("34: laid", x.of(1, 6), ABOVE);
        due("34: out", x.of(0, 6), NOWHERE);
        due("34: its row", x.of(1, 7), 1 << ABOVE);
        due("34: the clauses", x.good(0, RIGHT), 13);
        due("34: seen", x.can(1), 1 << ABOVE);
        due("34: the plan", x.done(1), 13);
        due("34: the book", x.looked(), NOWHERE);
        due("34: its row", x.row(1, ABOVE, 0), 7);
        due("34: its row", x.row(1, BELOW, 0), 0);
        due("34: the tape", x.feed('4'), 7);
        due("34: the tape is a map", x.map(), 1);
        due("34: the tape", x.told(0), 14);
    }

    private static void imageNotOfTheTrace() {
        NamesNoTouch x = filled();
        x.act(1, 2, 5);
        x.image();
        x.act(0, 0, 5);
        x.undo();
        due("34: the latest act's trace stays", x.trace(0), 1);
        due("34: one body ran", x.count(6), 1);
        x.act(7, 0, 0);
        x.undo();
        due("34: none stays", x.count(6), 0);
        due("34: none stays", x.trace(0), NONE);
    }

    private static void imageStaysAndIsTakenAnew() {
        NamesNoTouch x = filled();
        x.image();
        x.lift(1);
        due("34: once", x.undo(), 2);
        x.dot(NAME, 0, 1, 9, 9);
        due("34: twice", x.undo(), 2);
        due("34: the image is not in the image", x.of(1, 6), ABOVE);
        x.dot(NAME, 0, 1, 9, 9);
        x.lift(1);
        due("33: anew", x.image(), 3);
        x.lay(1, ABOVE);
        due("34: as the newer one", x.undo(), 3);
        due("34: out", x.of(1, 6), NOWHERE);
        due("34: the third is there", x.of(2, 3), 9);
    }

    private static void undoGivesRoomAgain() {
        NamesNoTouch x = two();
        x.image();
        for (int round = 0; round < 2; round++) {
            for (int i = 2; i < 7; i++) {
                due("4: dot " + i, x.dot(TOLD, 0, 1, i, 0), i);
                due("6: its row is 0 at first", x.row(i, RIGHT, 9), 0);
            }
            due("4: full", x.dot(NAME, 0, 1, 9, 0), FULL);
            for (int i = 0; i < 5; i++) {
                due("3: map " + i, Made.read(x, "wide 2" + i), i);
            }
            due("3: full", x.map(), FULL);
            for (int i = 1; i <= 5; i++) {
                due("21: seen " + i, x.see(0, 0, false), i);
            }
            due("34: two names", x.undo(), 2);
            due("35: maps", x.count(1), 0);
            due("35: seen", x.count(2), 0);
            due("10: wide", x.told(0), 24);
        }
    }

    private static void countsAtTheirEdges() {
        NamesNoTouch x = new NamesNoTouch();
        for (int what : new int[] {LEAST, -1, 7, GREATEST}) {
            due("35: what " + what, x.count(what), NONE);
        }
        for (int what = 0; what < 7; what++) {
            due("35: what " + what, x.count(what), 0);
        }
        NamesNoTouch y = sevenLaid();
        for (int i = 0; i < 9; i++) {
            y.see(0, 0, true);
            y.plan(0, 0);
            y.book(0, 0);
            Made.read(y, "wide 9");
        }
        Made.feed(y, Made.times("?", 101));
        y.act(0, 2, 0);
        int[] full = {7, 5, 5, 8, 8, 100, 3};
        for (int what = 0; what < 7; what++) {
            due("35: full, what " + what, y.count(what), full[what]);
        }
    }
}
