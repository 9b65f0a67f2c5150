/** Dots, names and the sheet (promises 4 to 12): each edge that the document names. */
public final class SheetEdgesTest {
    private static final int NONE = Made.NONE, BAD = Made.BAD, STATE = Made.STATE, NOWHERE = Made.NOWHERE;
    private static final int RIGHT = Made.RIGHT, LEFT = Made.LEFT, ABOVE = Made.ABOVE, BELOW = Made.BELOW;
    private static final int NAME = Made.NAME, TOLD = Made.TOLD;
    private static final int[] KINDS_OUTSIDE = {Made.LEAST, -1, 7, Made.GREATEST};
    private static final int[] PLACES_OUTSIDE = {Made.LEAST, -1, 4, Made.GREATEST};
    private static final int[] NAMES_OUTSIDE = {Made.LEAST, -1, 2, 7, Made.GREATEST};

    private SheetEdgesTest() {
    }

    public static void main(String[] args) {
        aDotsNumbersAtTheirEdges();
        aDotsRefusalsInTheirOrder();
        sevenDotsAtMost();
        anotherDotIsThere();
        aDotMayStandInANamesCellsOrOffTheSheet();
        ofWhatThereIsNot();
        lengthsByLetters();
        lengthsByV();
        whereKindsMayBe();
        toldOnesMayBeByTheirRow();
        sevenToldOnesHaveEachARowOfTheirOwn();
        rowsAtTheirEdges();
        cellsOfEachPlace();
        fitsToTheSheetsEnds();
        fitsNowhereWhereTooLong();
        fitsOverNoDot();
        freeIsNotHinderedByItself();
        freeByACellOfAnother();
        freeAtEachPlaceByOneCell();
        goodOfWhatThereIsNot();
        theRiverAtEachEndOfTheCells();
        theRiverOffTheSheet();
        laidWhereItWas();
        laidNotWhereItIsNotFree();
        liftedWhereItWas();
        toldOfNone();
        toldOfThoseLaid();
        asNearIsNotMistaken();
        clashesAtTheirEdges();
        atTheSheetsEnds();
        Due.close();
    }

    private static void due(String what, long got, long want) {
        Due.due(what, got, want);
    }

    private static void dotIs(int kind, int v, int letters, int column, int row, int want) {
        NamesNoTouch x = new NamesNoTouch();
        due("4: dot " + kind + " " + v + " " + letters + " " + column + " " + row,
                x.dot(kind, v, letters, column, row), want);
        due("4: how many then", x.count(0), want == 0 ? 1 : 0);
    }

    private static void aDotsNumbersAtTheirEdges() {
        for (int kind : KINDS_OUTSIDE) {
            dotIs(kind, 0, 1, 0, 0, NONE);
        }
        dotIs(0, 0, 1, 0, 0, 0);
        dotIs(6, 9, 9, 29, 11, 0);
        for (int off : new int[] {Made.LEAST, -1, 10, Made.GREATEST}) {
            dotIs(0, off, 1, 0, 0, BAD);
        }
        for (int off : new int[] {Made.LEAST, -1, 0, 10, Made.GREATEST}) {
            dotIs(0, 0, off, 0, 0, BAD);
        }
        for (int off : new int[] {Made.LEAST, -1, 30, Made.GREATEST}) {
            dotIs(0, 0, 1, off, 0, BAD);
        }
        for (int off : new int[] {Made.LEAST, -1, 12, Made.GREATEST}) {
            dotIs(0, 0, 1, 0, off, BAD);
        }
    }

    private static void aDotsRefusalsInTheirOrder() {
        dotIs(7, 10, 0, 30, 12, NONE);
        NamesNoTouch x = seven();
        due("4: kind ahead of all", x.dot(7, 10, 0, 0, 0), NONE);
        due("4: kind ahead of full", x.dot(-1, 0, 1, 9, 9), NONE);
        due("4: v ahead of full", x.dot(0, 10, 1, 9, 9), BAD);
        due("4: letters ahead of full", x.dot(0, 0, 0, 9, 9), BAD);
        due("4: column ahead of full", x.dot(0, 0, 1, 30, 9), BAD);
        due("4: row ahead of full", x.dot(0, 0, 1, 9, 12), BAD);
        due("4: another dot ahead of full", x.dot(0, 0, 1, 6, 6), BAD);
        due("4: full", x.dot(0, 0, 1, 9, 9), Made.FULL);
    }

    private static NamesNoTouch seven() {
        NamesNoTouch x = new NamesNoTouch();
        for (int i = 0; i < 7; i++) {
            x.dot(i, i, i + 1, i, i);
        }
        return x;
    }

    private static void sevenDotsAtMost() {
        NamesNoTouch x = new NamesNoTouch();
        for (int i = 0; i < 7; i++) {
            due("4: dot " + i, x.dot(0, 0, 1, i, 0), i);
            due("35: dots", x.count(0), i + 1);
        }
        due("4: an eighth", x.dot(0, 0, 1, 7, 0), Made.FULL);
        due("4: and again", x.dot(0, 0, 1, 7, 0), Made.FULL);
        due("4: seven", x.count(0), 7);
        due("5: no eighth", x.of(7, 0), NONE);
    }

    private static void anotherDotIsThere() {
        NamesNoTouch x = Made.one("", NAME, 0, 1, 5, 5);
        due("4: there", x.dot(1, 1, 1, 5, 5), BAD);
        due("4: in its row", x.dot(1, 1, 1, 6, 5), 1);
        due("4: in its column", x.dot(1, 1, 1, 5, 6), 2);
        due("4: at the last one's", x.dot(1, 1, 1, 5, 6), BAD);
    }

    private static void aDotMayStandInANamesCellsOrOffTheSheet() {
        NamesNoTouch x = Made.one("wide 10", NAME, 0, 4, 3, 5);
        x.lay(0, RIGHT);
        due("4: in a cell of a name", x.dot(0, 0, 1, 5, 5), 1);
        due("8: it stays laid", x.of(0, 6), RIGHT);
        due("5: it does not fit there any more", x.of(0, 8), 12);
        due("8: so it is not free there", x.lay(0, RIGHT), STATE);
        due("4: off the sheet", x.dot(0, 0, 1, 29, 5), 2);
        due("5: it fits nowhere", x.of(2, 8), 0);
    }

    private static void ofWhatThereIsNot() {
        NamesNoTouch x = Made.one("", NAME, 0, 1, 5, 5);
        x.dot(TOLD, 9, 9, 29, 11);
        for (int name : NAMES_OUTSIDE) {
            for (int what = 0; what <= 9; what++) {
                due("5: name " + name, x.of(name, what), NONE);
            }
        }
        for (int what : new int[] {Made.LEAST, -1, 10, Made.GREATEST}) {
            due("5: what " + what, x.of(1, what), NONE);
        }
        int[] least = {0, 0, 1, 5, 5, 1, NOWHERE, 15, 15, 15};
        int[] most = {6, 9, 9, 29, 11, 6, NOWHERE, 0, 0, 0};
        for (int what = 0; what <= 9; what++) {
            due("5: of the least " + what, x.of(0, what), least[what]);
            due("5: of the greatest " + what, x.of(1, what), most[what]);
        }
        due("5: none at all", new NamesNoTouch().of(0, 0), NONE);
    }

    private static void lengthsByLetters() {
        int[] large = {1, 3, 4, 6, 7, 9, 10, 12, 13};
        for (int letters = 1; letters <= 9; letters++) {
            due("5: NAME " + letters, Made.one("", NAME, 9, letters, 0, 0).of(0, 5), letters);
            due("5: LARGE " + letters, Made.one("", Made.LARGE, 9, letters, 0, 0).of(0, 5), large[letters - 1]);
            due("5: COASTAL " + letters, Made.one("", Made.COASTAL, 9, letters, 0, 0).of(0, 5), letters);
            due("5: CITY " + letters, Made.one("", Made.CITY, 9, letters, 0, 0).of(0, 5), large[letters - 1] + 1);
            due("5: HARBOUR " + letters, Made.one("", Made.HARBOUR, 9, letters, 0, 0).of(0, 5), letters);
        }
    }

    private static void lengthsByV() {
        int[] thirds = {0, 0, 0, 1, 1, 1, 2, 2, 2, 3};
        for (int v = 0; v <= 9; v++) {
            for (int letters = 1; letters <= 9; letters++) {
                int want = letters - thirds[v] > 0 ? letters - thirds[v] : 1;
                due("5: SHY " + letters + " " + v, Made.one("", Made.SHY, v, letters, 0, 0).of(0, 5), want);
                due("5: TOLD " + letters + " " + v, Made.one("", TOLD, v, letters, 0, 0).of(0, 5), want);
            }
        }
    }

    private static void whereKindsMayBe() {
        int[] may = {15, 3, 9, 12, 15, 1, 0};
        for (int kind = 0; kind < 7; kind++) {
            due("5: MAY of " + kind, Made.one("", kind, 0, 1, 5, 5).of(0, 7), may[kind]);
            due("5: FITS of " + kind, Made.one("", kind, 0, 1, 5, 5).of(0, 8), may[kind]);
            due("5: FREE of " + kind, Made.one("", kind, 0, 1, 5, 5).of(0, 9), may[kind]);
        }
    }

    private static void toldOnesMayBeByTheirRow() {
        for (int bits = 0; bits < 16; bits++) {
            NamesNoTouch x = Made.one("", TOLD, 0, 1, 5, 5);
            for (int k = 0; k < 4; k++) {
                due("6: 0 at first", x.row(0, k, (bits >> k & 1) == 0 ? 0 : k == 1 ? 9 : 1), 0);
            }
            due("5: MAY by " + bits, x.of(0, 7), bits);
            due("5: FITS by " + bits, x.of(0, 8), bits);
        }
        NamesNoTouch x = Made.told("", RIGHT, 2, 5, 5);
        x.lay(0, RIGHT);
        due("6: what it was", x.row(0, RIGHT, 0), 1);
        due("6: it stays laid", x.of(0, 6), RIGHT);
        due("8: but can't be laid there", x.lay(0, RIGHT), STATE);
    }

    private static void sevenToldOnesHaveEachARowOfTheirOwn() {
        NamesNoTouch x = new NamesNoTouch();
        for (int i = 0; i < 7; i++) {
            x.dot(TOLD, 0, 1, 3 * i + 1, 5);
        }
        for (int i = 0; i < 7; i++) {
            for (int k = 0; k < 4; k++) {
                due("6: of " + i + ", place " + k, x.row(i, k, (i + k) % 10), 0);
            }
        }
        for (int i = 0; i < 7; i++) {
            due("5: MAY of " + i, x.of(i, 7), i == 0 ? 14 : 15);
            for (int k = 0; k < 4; k++) {
                due("6: what it was, " + i + ", place " + k, x.row(i, k, 0), (i + k) % 10);
            }
            due("5: it may nowhere then, " + i, x.of(i, 7), 0);
        }
    }

    private static void rowsAtTheirEdges() {
        NamesNoTouch x = Made.one("", TOLD, 0, 1, 5, 5);
        x.dot(Made.SHY, 0, 1, 5, 7);
        for (int name : NAMES_OUTSIDE) {
            due("6: name " + name, x.row(name, 0, 0), NONE);
            due("6: name ahead of n", x.row(name, 0, 10), NONE);
        }
        for (int k : PLACES_OUTSIDE) {
            due("6: k " + k, x.row(0, k, 0), NONE);
            due("6: k ahead of n and kind", x.row(1, k, 10), NONE);
        }
        for (int n : new int[] {Made.LEAST, -1, 10, Made.GREATEST}) {
            due("6: n " + n, x.row(0, 0, n), BAD);
            due("6: n ahead of kind", x.row(1, 0, n), BAD);
        }
        due("6: nothing came of it", x.of(0, 7), 0);
        due("6: n 9", x.row(0, 3, 9), 0);
        due("6: n 0", x.row(0, 3, 0), 9);
        for (int kind = 0; kind < 6; kind++) {
            due("6: another kind, " + kind, Made.one("", kind, 0, 1, 5, 5).row(0, 0, 0), STATE);
        }
    }

    private static boolean isCell(int place, int length, int column, int row) {
        int first = new int[] {16, 15 - length, 15, 15}[place];
        int line = new int[] {5, 5, 4, 6}[place];
        return row == line && column >= first && column < first + length;
    }

    private static void cellsOfEachPlace() {
        for (int place = 0; place < 4; place++) {
            NamesNoTouch x = Made.one("wide 30", Made.CITY, 0, 9, 15, 5);
            due("8: place " + place, x.lay(0, place), NOWHERE);
            for (int row = 0; row < 12; row++) {
                for (int column = 0; column < 30; column++) {
                    due("12: place " + place + ", at " + column + " " + row, x.at(column, row),
                            isCell(place, 14, column, row) ? 1 : 0);
                }
            }
        }
    }

    private static void fits(String map, int place, int letters, int column, int row, boolean is) {
        NamesNoTouch x = Made.told(map, place, letters, column, row);
        String what = map + ", place " + place + ", letters " + letters + ", " + column + " " + row;
        due("5: FITS, " + what, x.of(0, 8), is ? 1 << place : 0);
        due("8: " + what, x.lay(0, place), is ? NOWHERE : STATE);
    }

    private static void fitsToTheSheetsEnds() {
        for (int wide : new int[] {10, 24, 30}) {
            String map = "wide " + wide;
            fits(map, RIGHT, 3, wide - 4, 5, true);
            fits(map, RIGHT, 3, wide - 3, 5, false);
            fits(map, RIGHT, 1, wide - 2, 5, true);
            fits(map, RIGHT, 1, wide - 1, 5, false);
            fits(map, ABOVE, 3, wide - 3, 5, true);
            fits(map, ABOVE, 3, wide - 2, 5, false);
            fits(map, BELOW, 1, wide - 1, 5, true);
            fits(map, BELOW, 3, wide - 2, 5, false);
        }
        fits("wide 29", BELOW, 1, 29, 5, false);
        fits("wide 29", LEFT, 1, 29, 5, true);
        fits("wide 28", LEFT, 1, 29, 5, false);
        fits("wide 28", LEFT, 2, 29, 5, false);
        fits("", LEFT, 3, 3, 5, true);
        fits("", LEFT, 3, 2, 5, false);
        fits("", LEFT, 1, 0, 5, false);
        fits("", LEFT, 9, 9, 5, true);
        fits("", LEFT, 9, 8, 5, false);
        fits("", ABOVE, 3, 0, 0, false);
        fits("", ABOVE, 3, 0, 1, true);
        fits("", BELOW, 3, 0, 10, true);
        fits("", BELOW, 3, 0, 11, false);
        fits("", RIGHT, 3, 0, 0, true);
        fits("", RIGHT, 3, 0, 11, true);
        fits("", LEFT, 3, 23, 0, true);
        fits("", LEFT, 3, 23, 11, true);
    }

    private static void fitsNowhereWhereTooLong() {
        NamesNoTouch x = Made.one("wide 10", Made.CITY, 0, 9, 5, 5);
        due("5: 14 on a sheet of 10", x.of(0, 8), 0);
        Made.read(x, "wide 14");
        due("5: 14 on a sheet of 14, from column 5", x.of(0, 8), 0);
        due("5: 14 on a sheet of 14, from column 0", Made.one("wide 14", Made.CITY, 0, 9, 0, 5).of(0, 8), 12);
        due("5: 14 on a sheet of 15, from column 0", Made.one("wide 15", Made.CITY, 0, 9, 0, 5).of(0, 8), 13);
        due("5: 14 on a sheet of 30, column 15", Made.one("wide 30", Made.CITY, 0, 9, 15, 5).of(0, 8), 15);
        due("5: 14 on a sheet of 30, column 16", Made.one("wide 30", Made.CITY, 0, 9, 16, 5).of(0, 8), 14);
        due("5: 14 on a sheet of 30, column 14", Made.one("wide 30", Made.CITY, 0, 9, 14, 5).of(0, 8), 15);
        due("5: 14 on a sheet of 30, column 13", Made.one("wide 30", Made.CITY, 0, 9, 13, 5).of(0, 8), 13);
    }

    /** A name of three at column 10, row 5, and another dot. */
    private static void fitsBeside(int column, int row, int want) {
        NamesNoTouch x = Made.one("", NAME, 0, 3, 10, 5);
        x.dot(TOLD, 0, 1, column, row);
        due("5: FITS with a dot in " + column + " " + row, x.of(0, 8), want);
        NamesNoTouch y = Made.one("", TOLD, 0, 1, column, row);
        y.dot(NAME, 0, 3, 10, 5);
        due("5: FITS with an earlier dot in " + column + " " + row, y.of(1, 8), want);
    }

    private static void fitsOverNoDot() {
        fitsBeside(11, 5, 14);
        fitsBeside(13, 5, 14);
        fitsBeside(14, 5, 15);
        fitsBeside(9, 5, 13);
        fitsBeside(7, 5, 13);
        fitsBeside(6, 5, 15);
        fitsBeside(10, 4, 11);
        fitsBeside(12, 4, 11);
        fitsBeside(13, 4, 15);
        fitsBeside(9, 4, 15);
        fitsBeside(10, 6, 7);
        fitsBeside(12, 6, 7);
        fitsBeside(13, 6, 15);
        fitsBeside(9, 6, 15);
        fitsBeside(11, 3, 15);
        fitsBeside(11, 7, 15);
    }

    private static void freeIsNotHinderedByItself() {
        for (int place = 0; place < 4; place++) {
            NamesNoTouch x = Made.one("", NAME, 0, 3, 10, 5);
            x.lay(0, place);
            due("5: FREE, laid at " + place, x.of(0, 9), 15);
            due("8: the same again", x.lay(0, place), place);
        }
    }

    private static void freeByACellOfAnother() {
        NamesNoTouch x = Made.one("", NAME, 0, 3, 10, 5);
        x.dot(NAME, 0, 3, 14, 5);
        due("5: none is laid", x.of(1, 9), 15);
        x.dot(NAME, 0, 4, 17, 4);
        x.dot(NAME, 0, 2, 8, 7);
        x.lay(3, ABOVE);
        due("5: beside its first cell", x.of(0, 9), 15);
        x.dot(NAME, 0, 3, 8, 3);
        x.lay(4, BELOW);
        due("5: its last cell", x.of(0, 9), 11);
        x.lift(4);
        x.lay(2, LEFT);
        due("5: beside its last cell", x.of(0, 9), 15);
        due("5: its first cells", x.of(1, 9), 11);
    }

    /** Another, of one letter, in the last cell of a place, or just beside it. */
    private static void freeBeside(int place, int column, int row, int otherPlace, boolean isIn) {
        NamesNoTouch x = Made.one("", NAME, 0, 3, 10, 5);
        x.dot(NAME, 0, 1, column, row);
        x.lay(1, otherPlace);
        due("5: FREE but at " + place, x.of(0, 9), isIn ? 15 - (1 << place) : 15);
        due("8: at " + place, x.lay(0, place), isIn ? STATE : NOWHERE);
        due("11: in common", x.clash(0, place, 1, otherPlace), isIn ? 1 : 0);
    }

    private static void freeAtEachPlaceByOneCell() {
        freeBeside(RIGHT, 13, 4, BELOW, true);
        freeBeside(RIGHT, 14, 4, BELOW, false);
        freeBeside(LEFT, 7, 4, BELOW, true);
        freeBeside(LEFT, 6, 4, BELOW, false);
        freeBeside(ABOVE, 12, 3, BELOW, true);
        freeBeside(ABOVE, 13, 3, BELOW, false);
        freeBeside(BELOW, 12, 7, ABOVE, true);
        freeBeside(BELOW, 13, 7, ABOVE, false);
    }

    private static void goodOfWhatThereIsNot() {
        NamesNoTouch x = Made.one("", NAME, 0, 1, 5, 5);
        x.dot(NAME, 0, 1, 5, 6);
        for (int name : NAMES_OUTSIDE) {
            due("7: name " + name, x.good(name, 0), Made.UNTOLD);
        }
        for (int place : PLACES_OUTSIDE) {
            due("7: place " + place, x.good(1, place), Made.UNTOLD);
        }
        due("7: where it may not be, too", Made.one("", Made.HARBOUR, 0, 1, 5, 5).good(0, LEFT), 10);
        due("7: where it does not fit, too", Made.one("", NAME, 0, 9, 0, 0).good(0, LEFT), 10);
    }

    private static void theRiverAtEachEndOfTheCells() {
        int[] firsts = {11, 7, 10, 10};
        for (int place = 0; place < 4; place++) {
            for (int off = -1; off <= 3; off++) {
                NamesNoTouch x = Made.one("river " + (firsts[place] + off), NAME, 0, 3, 10, 5);
                due("7: river " + off + " from the first cell, place " + place, x.good(0, place),
                        off < 0 || off > 2 ? 10 : 5);
            }
        }
        due("7: in column 0", Made.one("river 0", NAME, 0, 3, 3, 5).good(0, LEFT), 5);
        due("7: in column 29", Made.one("river 29", NAME, 0, 1, 28, 5).good(0, RIGHT), 5);
    }

    private static void theRiverOffTheSheet() {
        due("7: behind a narrow sheet", Made.one("wide 10;river 12", NAME, 0, 3, 9, 5).good(0, RIGHT), 5);
        due("7: behind the widest sheet", Made.one("river 43", Made.CITY, 0, 9, 29, 5).good(0, RIGHT), 5);
        due("7: behind its last cell", Made.one("river 44", Made.CITY, 0, 9, 29, 5).good(0, RIGHT), 10);
        due("7: far behind", Made.one("river 64", Made.CITY, 0, 9, 29, 5).good(0, RIGHT), 10);
        due("7: far behind", Made.one("river 93", Made.CITY, 0, 9, 29, 5).good(0, RIGHT), 10);
        due("7: 99", Made.one("river 99", Made.CITY, 0, 9, 29, 5).good(0, RIGHT), 10);
        due("7: above the sheet", Made.one("river 5", NAME, 0, 3, 5, 0).good(0, ABOVE), 5);
    }

    private static void laidWhereItWas() {
        NamesNoTouch x = Made.one("", NAME, 0, 3, 10, 5);
        x.dot(NAME, 0, 3, 20, 5);
        due("8: it was out", x.lay(0, RIGHT), NOWHERE);
        due("8: it was right", x.lay(0, LEFT), RIGHT);
        due("8: it was left", x.lay(0, ABOVE), LEFT);
        due("8: it was above", x.lay(0, BELOW), ABOVE);
        due("8: it was below", x.lay(0, BELOW), BELOW);
        for (int name : NAMES_OUTSIDE) {
            due("8: name " + name, x.lay(name, 0), NONE);
        }
        for (int place : PLACES_OUTSIDE) {
            due("8: place " + place, x.lay(0, place), NONE);
        }
        due("8: still below", x.of(0, 6), BELOW);
    }

    private static void laidNotWhereItIsNotFree() {
        NamesNoTouch x = Made.one("", Made.SHY, 0, 3, 10, 5);
        x.dot(NAME, 0, 3, 10, 7);
        x.lay(1, ABOVE);
        due("8: it may not", x.lay(0, RIGHT), STATE);
        due("8: it clashes", x.lay(0, BELOW), STATE);
        due("8: still out", x.of(0, 6), NOWHERE);
        x.lay(0, ABOVE);
        due("8: it clashes", x.lay(0, BELOW), STATE);
        due("8: still above", x.of(0, 6), ABOVE);
        due("8: name ahead of state", x.lay(2, BELOW), NONE);
        due("8: place ahead of state", x.lay(0, 4), NONE);
        x.lift(1);
        due("8: free now", x.lay(0, BELOW), ABOVE);
    }

    private static void liftedWhereItWas() {
        NamesNoTouch x = Made.one("", NAME, 0, 3, 10, 5);
        x.dot(NAME, 0, 3, 20, 5);
        due("9: out", x.lift(0), NOWHERE);
        for (int place = 0; place < 4; place++) {
            x.lay(0, place);
            due("9: where it was", x.lift(0), place);
            due("9: out", x.lift(0), NOWHERE);
        }
        for (int name : NAMES_OUTSIDE) {
            due("9: name " + name, x.lift(name), NONE);
        }
        due("9: none at all", new NamesNoTouch().lift(0), NONE);
    }

    private static void toldOfNone() {
        int[] want = {24, 99, 0, 0, 0, 0};
        NamesNoTouch x = new NamesNoTouch();
        NamesNoTouch y = Made.one("", NAME, 0, 3, 10, 5);
        for (int what = 0; what < 6; what++) {
            due("10: without dots, what " + what, x.told(what), want[what]);
            due("10: all out, what " + what, y.told(what), want[what]);
        }
        for (int what : new int[] {Made.LEAST, -1, 6, Made.GREATEST}) {
            due("10: what " + what, x.told(what), Made.UNTOLD);
            due("10: what " + what, y.told(what), Made.UNTOLD);
        }
    }

    private static void toldOfThoseLaid() {
        NamesNoTouch x = new NamesNoTouch();
        for (int i = 0; i < 7; i++) {
            x.dot(NAME, 0, 1, 4 * i, 5);
        }
        Made.read(x, "wide 30;bore 99 n=6;river 25");
        for (int i = 0; i < 7; i++) {
            x.lay(i, RIGHT);
            due("10: how many", x.told(2), i + 1);
            due("10: which", x.told(5), (2 << i) - 1);
        }
        due("10: SCORE below 0", x.told(3), 60 - 89 - 5);
        x.lift(0);
        due("10: how many", x.told(2), 6);
        due("10: which", x.told(5), 126);
    }

    /** A name of so many, laid; another dot is as near to its middle cell, and nearer by one. */
    private static void mistaken(int letters, int place, int column, int row, int dx) {
        NamesNoTouch x = Made.one("", NAME, 0, letters, 10, 5);
        x.lay(0, place);
        x.dot(NAME, 0, 1, column, row);
        due("10: as near is not nearer, " + letters + " " + place, x.told(4), 0);
        x.dot(NAME, 0, 1, column + dx, row);
        due("10: nearer by one, " + letters + " " + place, x.told(4), 1);
        x.lift(0);
        due("10: out", x.told(4), 0);
    }

    private static void mistakenForAnEarlierOne(int column, int want) {
        NamesNoTouch x = Made.one("", NAME, 0, 1, column, 3);
        x.dot(NAME, 0, 5, 10, 5);
        x.lay(1, ABOVE);
        due("10: an earlier dot in column " + column, x.told(4), want);
    }

    private static void asNearIsNotMistaken() {
        mistaken(5, RIGHT, 16, 5, -1);
        mistaken(4, RIGHT, 16, 5, -1);
        mistaken(5, LEFT, 4, 5, 1);
        mistaken(4, LEFT, 6, 5, 1);
        mistaken(5, ABOVE, 14, 3, -1);
        mistaken(4, BELOW, 14, 7, -1);
        mistaken(1, RIGHT, 12, 5, -1);
        mistakenForAnEarlierOne(14, 0);
        mistakenForAnEarlierOne(13, 2);
        mistakenForAnEarlierOne(12, 2);
        mistakenForAnEarlierOne(11, 2);
        mistakenForAnEarlierOne(10, 0);
    }

    private static void clashesAtTheirEdges() {
        NamesNoTouch x = Made.one("", Made.CITY, 0, 9, 5, 5);
        x.dot(Made.CITY, 0, 9, 5, 3);
        due("11: all fourteen", x.clash(0, ABOVE, 1, BELOW), 14);
        due("11: none", x.clash(0, BELOW, 1, ABOVE), 0);
        due("11: the same place", x.clash(0, RIGHT, 1, RIGHT), 0);
        x.dot(NAME, 0, 1, 19, 3);
        due("11: beside the last", x.clash(2, BELOW, 1, BELOW), 0);
        x.dot(NAME, 0, 1, 18, 3);
        due("11: the last", x.clash(3, BELOW, 1, BELOW), 1);
        for (int p = 0; p < 4; p++) {
            for (int q = 0; q < 4; q++) {
                due("11: one is both", x.clash(2, p, 2, q), BAD);
            }
        }
        for (int name : new int[] {Made.LEAST, -1, 4, 7, Made.GREATEST}) {
            due("11: one " + name, x.clash(name, 0, 1, 0), NONE);
            due("11: other " + name, x.clash(1, 0, name, 0), NONE);
            due("11: none such ahead of both", x.clash(name, 0, name, 0), NONE);
        }
        for (int place : PLACES_OUTSIDE) {
            due("11: place " + place, x.clash(0, place, 1, 0), NONE);
            due("11: where " + place, x.clash(0, 0, 1, place), NONE);
            due("11: none such ahead of both", x.clash(0, 0, 0, place), NONE);
        }
    }

    private static void atTheSheetsEnds() {
        NamesNoTouch x = Made.one("wide 30", NAME, 0, 2, 2, 0);
        x.dot(NAME, 0, 2, 27, 11);
        x.lay(0, LEFT);
        x.lay(1, RIGHT);
        due("12: the first cell of all", x.at(0, 0), 1);
        due("12: the last cell of all", x.at(29, 11), 2);
        due("12: no dot's", x.at(2, 0), 0);
        due("12: the other corners", x.at(29, 0) + x.at(0, 11), 0);
        Made.read(x, "wide 10");
        due("12: off the sheet now, laid all the same", x.at(29, 11), 2);
        for (int column : new int[] {Made.LEAST, -1, 30, Made.GREATEST}) {
            due("12: column " + column, x.at(column, 0), NONE);
        }
        for (int row : new int[] {Made.LEAST, -1, 12, Made.GREATEST}) {
            due("12: row " + row, x.at(0, row), NONE);
        }
        NamesNoTouch y = Made.one("", NAME, 0, 3, 5, 5);
        y.dot(NAME, 0, 3, 5, 8);
        y.lay(0, BELOW);
        y.lay(1, BELOW);
        due("12: one's alone", y.at(5, 6), 1);
        due("12: the other's alone", y.at(5, 9), 2);
    }
}
