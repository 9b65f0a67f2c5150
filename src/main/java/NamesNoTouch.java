import java.util.ArrayList;

/** A sheet with dots and a name for each, laid so that no name touches a dot or another name. */
public final class NamesNoTouch {
    public static final int NONE = -1, BAD = -2, STATE = -3, FULL = -4;
    public static final long NO = Long.MIN_VALUE;

    private static final int NOWHERE = -5, OTHER_KIND = -6, FAULTY = -10, UNTOLD = -10001;

    private static final int RIGHT = 0, LEFT = 1, ABOVE = 2, BELOW = 3, OUT = 4;
    private static final int PLACES = 4, ALL_PLACES = 15, OUT_BIT = 16;
    private static final int LINES = 12, COLUMNS = 30, LEAST_WIDE = 10, USUAL_WIDE = 24, NO_RIVER = 99;
    private static final int DOTS = 7, KINDS = 7, MAPS = 5, SIGNS = 100, CLAUSES = 10, OPEN = 5;
    private static final int SEEN = 5, ROWS = 8, KEPT_BODIES = 20;

    // The longest name has 14 cells, so a column is never further left than this.
    private static final int FIRST_COLUMN = -14;

    // What a map comes to: each test, sign and clause is one number, the signs behind what they join.
    private static final int NOT = 1, AND = 2, OR = 3, TEST = 1000, LOVE = 10000, BORE = 20000;
    private static final String ASKED = "nkvpxl", COMPARED = "<=>";

    // More than all scores of a sheet come to: with it, one name more outweighs any score.
    private static final int ONE_MORE = 100000;

    private final Row trail = new Row(KEPT_BODIES);
    private final Sheet sheet = new Sheet();
    private final Sheet taken = new Sheet();
    private final Reader reader = new Reader(sheet.tape);
    private final Search search = new Search(sheet);
    private boolean isTaken;

    public NamesNoTouch() {
    }

    // ---- maps, dots, names

    public int feed(int sign) {
        if (sign < 0 || sign > 127) {
            return BAD;
        }
        if (sheet.tape.size() >= SIGNS) {
            return FULL;
        }
        sheet.tape.add(sign);
        return sheet.tape.size();
    }

    public int map() {
        if (sheet.maps >= MAPS) {
            return FULL;
        }
        boolean isMap = reader.read();
        sheet.tape.clear();
        if (!isMap) {
            return FAULTY - reader.position;
        }
        sheet.hold(reader);
        return sheet.maps - 1;
    }

    public int dot(int kind, int v, int letters, int column, int row) {
        if (kind < 0 || kind >= KINDS) {
            return NONE;
        }
        if (v < 0 || v > 9 || letters < 1 || letters > 9 || !isSpot(column, row) || sheet.hasDot(column, row)) {
            return BAD;
        }
        if (sheet.dots() >= DOTS) {
            return FULL;
        }
        sheet.names.add(named(kind, v, letters, column, row));
        sheet.where.set(sheet.dots() - 1, OUT);
        return sheet.dots() - 1;
    }

    public int of(int name, int what) {
        Name one = sheet.name(name);
        if (one == null) {
            return NONE;
        }
        switch (what) {
            case 0: return one.kind();
            case 1: return one.v;
            case 2: return one.letters;
            case 3: return one.column;
            case 4: return one.line;
            case 5: return one.length(one.v);
            case 6: return outward(sheet.where.get(name));
            case 7: return sheet.mayBe(name);
            case 8: return sheet.fitting(name, sheet.wide);
            case 9: return sheet.free(name, sheet.where);
            default: return NONE;
        }
    }

    public int row(int name, int k, int n) {
        if (!sheet.has(name) || !isPlace(k)) {
            return NONE;
        }
        if (n < 0 || n > 9) {
            return BAD;
        }
        if (!(sheet.name(name) instanceof Told)) {
            return STATE;
        }
        int was = sheet.rows.get(name * PLACES + k);
        sheet.rows.set(name * PLACES + k, n);
        return was;
    }

    public int good(int name, int place) {
        return sheet.has(name) && isPlace(place) ? sheet.goodness(name, place) : UNTOLD;
    }

    public int lay(int name, int place) {
        if (!sheet.has(name) || !isPlace(place)) {
            return NONE;
        }
        if (!hasBit(sheet.free(name, sheet.where), place)) {
            return STATE;
        }
        return put(name, place);
    }

    public int lift(int name) {
        return sheet.has(name) ? put(name, OUT) : NONE;
    }

    public int told(int what) {
        switch (what) {
            case 0: return sheet.wide;
            case 1: return sheet.river;
            case 2: return Integer.bitCount(sheet.laid(sheet.where));
            case 3: return sheet.score(sheet.where);
            case 4: return sheet.mistaken();
            case 5: return sheet.laid(sheet.where);
            default: return UNTOLD;
        }
    }

    public int clash(int one, int place, int other, int where) {
        if (!sheet.has(one) || !isPlace(place) || !sheet.has(other) || !isPlace(where)) {
            return NONE;
        }
        return one == other ? BAD : sheet.shared(one, place, other, where);
    }

    public int at(int column, int row) {
        return isSpot(column, row) ? sheet.covering(column, row) : NONE;
    }

    // ---- how many can be in

    public int most(int what) {
        if (what != 0 && what != 1 && !sheet.has(what - 10)) {
            return UNTOLD;
        }
        search.bestWay(ONE_MORE);
        switch (what) {
            case 0: return search.howMany();
            case 1: return search.score();
            default: return outward(search.found(what - 10));
        }
    }

    public int best(int what) {
        if (what != 0 && !sheet.has(what - 10)) {
            return UNTOLD;
        }
        search.bestWay(0);
        return what == 0 ? search.score() : outward(search.found(what - 10));
    }

    public int all(int set) {
        if (set < 1 || set > ALL_PLACES) {
            return BAD;
        }
        return search.canAllBeIn(sheet.wide, set) ? 1 : 0;
    }

    public int room() {
        // What fits on a sheet fits on a wider one, too: the widest tells whether there is any.
        if (!search.canAllBeIn(COLUMNS, ALL_PLACES)) {
            return NOWHERE;
        }
        for (int wide = LEAST_WIDE; wide < COLUMNS; wide++) {
            if (search.canAllBeIn(wide, ALL_PLACES)) {
                return wide;
            }
        }
        return COLUMNS;
    }

    public int moved(int name) {
        if (!sheet.has(name)) {
            return NONE;
        }
        if (sheet.where.get(name) != OUT) {
            return NOWHERE;
        }
        int moves = search.fewestMoves(name);
        return moves < 0 ? NOWHERE : moves;
    }

    // ---- orders

    public int inline(int what) {
        if (what != 0 && what != 1) {
            return UNTOLD;
        }
        search.takeInLine();
        return what == 0 ? search.howMany() : search.score();
    }

    public int order(int k) {
        if (k < -2 || k >= DOTS) {
            return UNTOLD;
        }
        if (k >= sheet.dots()) {
            return NOWHERE;
        }
        search.bestOrder();
        if (k == -2) {
            return search.howMany();
        }
        return k == -1 ? search.score() : search.found(k);
    }

    public int far(int name) {
        if (!sheet.has(name)) {
            return NONE;
        }
        return sheet.where.get(name) == OUT ? NOWHERE : sheet.fromMiddle(name, name);
    }

    // ---- seen, odds

    public int see(int column, int row, boolean is) {
        if (column == -1) {
            sheet.seen.clear();
            return 0;
        }
        if (!isSpot(column, row)) {
            return NONE;
        }
        if (sheet.seen.size() >= 3 * SEEN) {
            return FULL;
        }
        sheet.seen.add(column);
        sheet.seen.add(row);
        sheet.seen.add(is ? 1 : 0);
        return sheet.seen.size() / 3;
    }

    public int can(int name) {
        Name one = sheet.name(name);
        if (one == null) {
            return NONE;
        }
        int bits = 0;
        for (int place = RIGHT; place <= OUT; place++) {
            if (sheet.isAllSeen(name, place, one.v)) {
                bits |= 1 << place;
            }
        }
        return bits;
    }

    public int firm(int name, int what) {
        if (!sheet.has(name) || (what != 0 && what != 1)) {
            return NONE;
        }
        int several = 0;
        int least = NOWHERE;
        for (int v = 9; v >= 0; v--) {
            if (sheet.isAllSeen(name, sheet.where.get(name), v)) {
                several++;
                least = v;
            }
        }
        return what == 0 ? several : least;
    }

    public long odds(int name, int part) {
        if (!sheet.has(name)) {
            return NO;
        }
        int may = Integer.bitCount(sheet.mayBe(name));
        return fraction(Integer.bitCount(sheet.free(name, sheet.where)), may, part);
    }

    public long mean(int part) {
        return fraction(sheet.score(sheet.where), Integer.bitCount(sheet.laid(sheet.where)), part);
    }

    // ---- plans, books

    public int plan(int name, int place) {
        return written(sheet.plan, name, place);
    }

    public int done(int what) {
        if (what != 0 && what != 1) {
            return UNTOLD;
        }
        Row then = sheet.planned();
        return what == 0 ? Integer.bitCount(sheet.laid(then)) : sheet.score(then);
    }

    public int book(int name, int place) {
        return written(sheet.book, name, place);
    }

    public int looked() {
        for (int i = 0; i < sheet.book.size() / 2; i++) {
            if (sheet.where.get(sheet.book.get(2 * i)) != sheet.book.get(2 * i + 1)) {
                return i;
            }
        }
        return NOWHERE;
    }

    // ---- acts, the image

    public int act(int name, int act, int x) {
        trail.clear();
        Name one = sheet.name(name);
        if (one == null) {
            return 0;
        }
        switch (act) {
            case 0: return one.lies(x);
            case 1: return one.reads(x);
            case 2: return one.tells(x);
            default: return 0;
        }
    }

    public int trace(int i) {
        return i >= 0 && i < KEPT_BODIES && i < trail.size() ? trail.get(i) : NONE;
    }

    public int as(int name, int k) {
        Name one = sheet.name(name);
        if (one == null || k < 0 || k >= KINDS) {
            return NONE;
        }
        return isOfKind(one, k) ? one.v : OTHER_KIND;
    }

    public int image() {
        taken.become(sheet);
        isTaken = true;
        return sheet.dots();
    }

    public int undo() {
        if (!isTaken) {
            return STATE;
        }
        sheet.become(taken);
        return sheet.dots();
    }

    public int count(int what) {
        switch (what) {
            case 0: return sheet.dots();
            case 1: return sheet.maps;
            case 2: return sheet.seen.size() / 3;
            case 3: return sheet.plan.size() / 2;
            case 4: return sheet.book.size() / 2;
            case 5: return sheet.tape.size();
            case 6: return trail.size();
            default: return NONE;
        }
    }

    private static boolean isPlace(int place) {
        return place >= 0 && place < PLACES;
    }

    private static boolean isSpot(int column, int line) {
        return column >= 0 && column < COLUMNS && line >= 0 && line < LINES;
    }

    private static boolean hasBit(int bits, int i) {
        return ((bits >> i) & 1) != 0;
    }

    private static int outward(int place) {
        return place == OUT ? NOWHERE : place;
    }

    private int put(int name, int place) {
        int was = sheet.where.get(name);
        sheet.where.set(name, place);
        return outward(was);
    }

    private Name named(int kind, int v, int letters, int column, int line) {
        int number = sheet.dots();
        switch (kind) {
            case 1: return new Large(trail, number, v, letters, column, line);
            case 2: return new Coastal(trail, number, v, letters, column, line);
            case 3: return new Shy(trail, number, v, letters, column, line);
            case 4: return new City(trail, number, v, letters, column, line);
            case 5: return new Harbour(trail, number, v, letters, column, line);
            case 6: return new Told(trail, number, v, letters, column, line);
            default: return new Name(trail, number, v, letters, column, line);
        }
    }

    private static boolean isOfKind(Name one, int kind) {
        switch (kind) {
            case 1: return one instanceof Large;
            case 2: return one instanceof Coastal;
            case 3: return one instanceof Shy;
            case 4: return one instanceof City;
            case 5: return one instanceof Harbour;
            case 6: return one instanceof Told;
            default: return true;
        }
    }

    private int written(Row rows, int name, int place) {
        if (name == -1) {
            rows.clear();
            return 0;
        }
        if (!sheet.has(name) || place < 0 || place > OUT) {
            return NONE;
        }
        if (rows.size() >= 2 * ROWS) {
            return FULL;
        }
        rows.add(name);
        rows.add(place);
        return rows.size() / 2;
    }

    private static long fraction(int above, int below, int part) {
        if (below <= 0 || (part != 0 && part != 1)) {
            return NO;
        }
        int whole = part == 0 ? above : below;
        for (int common = below; common > 1; common--) {
            if (above % common == 0 && below % common == 0) {
                return whole / common;
            }
        }
        return whole;
    }

    /** A row of numbers. Outside its length it answers 0 and keeps nothing, but counts what is added. */
    private static final class Row {
        private final int[] numbers;
        private int size;

        Row(int length) {
            numbers = new int[Math.max(length, 0)];
        }

        int size() {
            return size;
        }

        int get(int i) {
            return i >= 0 && i < numbers.length ? numbers[i] : 0;
        }

        void set(int i, int number) {
            if (i >= 0 && i < numbers.length) {
                numbers[i] = number;
            }
        }

        void add(int number) {
            if (size >= 0 && size < numbers.length) {
                numbers[size] = number;
            }
            size++;
        }

        void clear() {
            size = 0;
        }

        void become(Row other) {
            for (int i = 0; i < numbers.length; i++) {
                numbers[i] = other.get(i);
            }
            size = other.size;
        }
    }

    /** A dot with its name; the kinds under it have bodies of their own. */
    private static class Name {
        final Row trail;
        final int number, v, letters, column, line;

        Name(Row trail, int number, int v, int letters, int column, int line) {
            this.trail = trail;
            this.number = number;
            this.v = v;
            this.letters = letters;
            this.column = column;
            this.line = line;
        }

        int kind() {
            return 0;
        }

        /** The length that it would have with some v. */
        int length(int ifV) {
            return letters;
        }

        /** Where it may be, as bits; told are the places whose number in its row is above 0. */
        int mayBe(int told) {
            return ALL_PLACES;
        }

        int lies(int x) {
            trail.add(1);
            return x + number;
        }

        int reads(int x) {
            trail.add(2);
            return lies(x) - v;
        }

        int tells(int x) {
            trail.add(3);
            return reads(x) * 2;
        }

        final int lineAt(int place) {
            if (place == ABOVE) {
                return line - 1;
            }
            return place == BELOW ? line + 1 : line;
        }

        final int startAt(int place, int length) {
            if (place == RIGHT) {
                return column + 1;
            }
            return place == LEFT ? column - length : column;
        }

        /** The columns of its cells, as bits from FIRST_COLUMN on. */
        final long cells(int place, int ifV) {
            int length = length(ifV);
            return ((1L << length) - 1) << (startAt(place, length) - FIRST_COLUMN);
        }

        final boolean covers(int place, int ifV, int someColumn, int someLine) {
            return lineAt(place) == someLine && ((cells(place, ifV) >> (someColumn - FIRST_COLUMN)) & 1) != 0;
        }
    }

    private static class Large extends Name {
        Large(Row trail, int number, int v, int letters, int column, int line) {
            super(trail, number, v, letters, column, line);
        }

        int kind() {
            return 1;
        }

        int length(int ifV) {
            return letters + letters / 2;
        }

        int mayBe(int told) {
            return (1 << RIGHT) | (1 << LEFT);
        }

        int lies(int x) {
            trail.add(11);
            return super.lies(x * 3);
        }
    }

    private static class Coastal extends Name {
        Coastal(Row trail, int number, int v, int letters, int column, int line) {
            super(trail, number, v, letters, column, line);
        }

        int kind() {
            return 2;
        }

        int mayBe(int told) {
            return (1 << RIGHT) | (1 << BELOW);
        }

        int reads(int x) {
            trail.add(21);
            return -super.reads(x);
        }
    }

    private static class Shy extends Name {
        Shy(Row trail, int number, int v, int letters, int column, int line) {
            super(trail, number, v, letters, column, line);
        }

        int kind() {
            return 3;
        }

        int length(int ifV) {
            int length = letters - ifV / 3;
            return length < 1 ? 1 : length;
        }

        int mayBe(int told) {
            return (1 << ABOVE) | (1 << BELOW);
        }

        int tells(int x) {
            trail.add(31);
            return super.tells(x) ^ 7;
        }
    }

    private static final class City extends Large {
        City(Row trail, int number, int v, int letters, int column, int line) {
            super(trail, number, v, letters, column, line);
        }

        int kind() {
            return 4;
        }

        int length(int ifV) {
            return letters + letters / 2 + 1;
        }

        int mayBe(int told) {
            return ALL_PLACES;
        }

        int tells(int x) {
            trail.add(41);
            return super.tells(x - 1) + lies(2);
        }
    }

    private static final class Harbour extends Coastal {
        Harbour(Row trail, int number, int v, int letters, int column, int line) {
            super(trail, number, v, letters, column, line);
        }

        int kind() {
            return 5;
        }

        int mayBe(int told) {
            return 1 << RIGHT;
        }

        int lies(int x) {
            trail.add(51);
            return super.lies(x) ^ number;
        }
    }

    private static final class Told extends Shy {
        Told(Row trail, int number, int v, int letters, int column, int line) {
            super(trail, number, v, letters, column, line);
        }

        int kind() {
            return 6;
        }

        int mayBe(int told) {
            return told;
        }

        int reads(int x) {
            trail.add(61);
            return super.reads(x) + v;
        }
    }

    /** Reads a map from the tape; where it stops without one, its position is the fault. */
    private static final class Reader {
        private final Row tape;
        final Row code = new Row(SIGNS);
        int position, wide, river;
        private int number;

        Reader(Row tape) {
            this.tape = tape;
        }

        boolean read() {
            position = 0;
            wide = USUAL_WIDE;
            river = NO_RIVER;
            code.clear();
            for (int clauses = 1; clauses <= CLAUSES; clauses++) {
                if (!readsClause()) {
                    return false;
                }
                if (position >= tape.size()) {
                    return true;
                }
                if (clauses == CLAUSES || !takes(';')) {
                    return false;
                }
            }
            return false;
        }

        private boolean readsClause() {
            int first = next();
            if (first == 'w' || first == 'r') {
                return readsMeasure(first == 'w');
            }
            boolean isLove = first == 'l';
            if (!takesWord(isLove ? "love " : "bore ") || !takesNumber()) {
                return false;
            }
            int taste = (isLove ? LOVE : BORE) + number;
            if (!takes(' ') || !readsEither(0)) {
                return false;
            }
            code.add(taste);
            return true;
        }

        private boolean readsMeasure(boolean isWide) {
            if (!takesWord(isWide ? "wide " : "river ") || !takesNumber()) {
                return false;
            }
            if (isWide) {
                wide = Math.max(LEAST_WIDE, Math.min(COLUMNS, number));
            } else {
                river = number;
            }
            return true;
        }

        private boolean readsEither(int open) {
            if (!readsBoth(open)) {
                return false;
            }
            for (int more = 0; more < SIGNS && takes('|'); more++) {
                if (!readsBoth(open)) {
                    return false;
                }
                code.add(OR);
            }
            return true;
        }

        private boolean readsBoth(int open) {
            if (!readsOne(open)) {
                return false;
            }
            for (int more = 0; more < SIGNS && takes('&'); more++) {
                if (!readsOne(open)) {
                    return false;
                }
                code.add(AND);
            }
            return true;
        }

        private boolean readsOne(int open) {
            int sign = next();
            if (sign != '!' && sign != '(') {
                return readsTest();
            }
            if (open >= OPEN) {
                return false;
            }
            position++;
            return sign == '(' ? readsEither(open + 1) && takes(')') : readsOpposite(open + 1);
        }

        private boolean readsOpposite(int open) {
            if (!readsOne(open)) {
                return false;
            }
            code.add(NOT);
            return true;
        }

        private boolean readsTest() {
            int asked = takesOneOf(ASKED);
            if (asked < 0) {
                return false;
            }
            int compared = takesOneOf(COMPARED);
            if (compared < 0 || !takesNumber()) {
                return false;
            }
            code.add(TEST + (asked * 3 + compared) * 100 + number);
            return true;
        }

        private boolean takesNumber() {
            int digit = next();
            if (digit < '0' || digit > '9') {
                return false;
            }
            position++;
            number = digit - '0';
            digit = next();
            if (number > 0 && digit >= '0' && digit <= '9') {
                position++;
                number = number * 10 + digit - '0';
            }
            return true;
        }

        private boolean takesWord(String word) {
            for (int i = 0; i < word.length(); i++) {
                if (!takes(word.charAt(i))) {
                    return false;
                }
            }
            return true;
        }

        private int takesOneOf(String signs) {
            int sign = next();
            for (int i = 0; i < signs.length(); i++) {
                if (signs.charAt(i) == sign) {
                    position++;
                    return i;
                }
            }
            return -1;
        }

        private boolean takes(int sign) {
            if (next() != sign) {
                return false;
            }
            position++;
            return true;
        }

        /** The sign that comes now, or -1 behind the last one. */
        private int next() {
            return position < tape.size() ? tape.get(position) : -1;
        }
    }

    /** All that an image keeps. */
    private static final class Sheet {
        final Row tape = new Row(SIGNS);
        final Row code = new Row(SIGNS);
        final ArrayList<Name> names = new ArrayList<Name>();
        final Row where = new Row(DOTS);
        final Row rows = new Row(DOTS * PLACES);
        final Row seen = new Row(3 * SEEN);
        final Row plan = new Row(2 * ROWS);
        final Row book = new Row(2 * ROWS);
        private final Row then = new Row(DOTS);
        int maps, wide = USUAL_WIDE, river = NO_RIVER;

        void become(Sheet other) {
            tape.become(other.tape);
            code.become(other.code);
            names.clear();
            for (int i = 0; i < other.names.size(); i++) {
                names.add(other.names.get(i));
            }
            where.become(other.where);
            rows.become(other.rows);
            seen.become(other.seen);
            plan.become(other.plan);
            book.become(other.book);
            maps = other.maps;
            wide = other.wide;
            river = other.river;
        }

        void hold(Reader map) {
            code.become(map.code);
            wide = map.wide;
            river = map.river;
            maps++;
        }

        int dots() {
            return names.size();
        }

        boolean has(int i) {
            return i >= 0 && i < names.size();
        }

        Name name(int i) {
            return has(i) ? names.get(i) : null;
        }

        boolean hasDot(int column, int line) {
            for (int i = 0; i < dots(); i++) {
                Name one = name(i);
                if (one != null && one.column == column && one.line == line) {
                    return true;
                }
            }
            return false;
        }

        int mayBe(int i) {
            Name one = name(i);
            if (one == null) {
                return 0;
            }
            int told = 0;
            for (int place = 0; place < PLACES; place++) {
                if (rows.get(i * PLACES + place) > 0) {
                    told |= 1 << place;
                }
            }
            return one.mayBe(told);
        }

        /** Where it fits, were the sheet so wide, as bits. */
        int fitting(int i, int ifWide) {
            Name one = name(i);
            if (one == null) {
                return 0;
            }
            int bits = mayBe(i);
            for (int place = 0; place < PLACES; place++) {
                if (!isOnSheet(one, place, ifWide) || isOverDot(one, place)) {
                    bits &= ~(1 << place);
                }
            }
            return bits;
        }

        private static boolean isOnSheet(Name one, int place, int ifWide) {
            long columns = ((1L << ifWide) - 1) << -FIRST_COLUMN;
            int line = one.lineAt(place);
            return line >= 0 && line < LINES && (one.cells(place, one.v) & ~columns) == 0;
        }

        private boolean isOverDot(Name one, int place) {
            for (int i = 0; i < dots(); i++) {
                Name other = name(i);
                if (other != null && one.covers(place, one.v, other.column, other.line)) {
                    return true;
                }
            }
            return false;
        }

        /** Where it is free, were the others where told, as bits. */
        int free(int i, Row ifWhere) {
            int bits = fitting(i, wide);
            for (int place = 0; place < PLACES; place++) {
                if (hasBit(bits, place) && isClashing(i, place, ifWhere)) {
                    bits &= ~(1 << place);
                }
            }
            return bits;
        }

        private boolean isClashing(int i, int place, Row ifWhere) {
            for (int other = 0; other < dots(); other++) {
                int there = ifWhere.get(other);
                if (other != i && there != OUT && shared(i, place, other, there) > 0) {
                    return true;
                }
            }
            return false;
        }

        /** How many cells two of them have in common. */
        int shared(int i, int place, int j, int there) {
            Name one = name(i);
            Name other = name(j);
            if (one == null || other == null || one.lineAt(place) != other.lineAt(there)) {
                return 0;
            }
            return Long.bitCount(one.cells(place, one.v) & other.cells(there, other.v));
        }

        int laid(Row ifWhere) {
            int bits = 0;
            for (int i = 0; i < dots(); i++) {
                if (ifWhere.get(i) != OUT) {
                    bits |= 1 << i;
                }
            }
            return bits;
        }

        int score(Row ifWhere) {
            int sum = 0;
            for (int i = 0; i < dots(); i++) {
                if (ifWhere.get(i) != OUT) {
                    sum += goodness(i, ifWhere.get(i));
                }
            }
            return sum;
        }

        int goodness(int i, int place) {
            Name one = name(i);
            if (one == null) {
                return 0;
            }
            boolean isWet = river < COLUMNS - FIRST_COLUMN
                    && one.covers(place, one.v, river, one.lineAt(place));
            return 10 + taste(one, place) - (isWet ? 5 : 0);
        }

        /** What the clauses of the map give; the lowest bit is the newest of what stands open in them. */
        private int taste(Name one, int place) {
            int sum = 0;
            int bits = 0;
            for (int k = 0; k < code.size(); k++) {
                int now = code.get(k);
                if (now >= LOVE) {
                    int points = now >= BORE ? BORE - now : now - LOVE;
                    sum += (bits & 1) * points;
                    bits = 0;
                } else if (now >= TEST) {
                    bits = (bits << 1) | (holds(now - TEST, one, place) ? 1 : 0);
                } else if (now == NOT) {
                    bits ^= 1;
                } else if (now == AND) {
                    bits = (bits >> 1) & (bits | ~1);
                } else {
                    bits = (bits >> 1) | (bits & 1);
                }
            }
            return sum;
        }

        private static boolean holds(int test, Name one, int place) {
            int asked = asked(test / 300, one, place);
            int number = test % 100;
            switch (test / 100 % 3) {
                case 0: return asked < number;
                case 1: return asked == number;
                default: return asked > number;
            }
        }

        private static int asked(int what, Name one, int place) {
            switch (what) {
                case 0: return one.number;
                case 1: return one.kind();
                case 2: return one.v;
                case 3: return place;
                case 4: return one.column / 3;
                default: return one.letters;
            }
        }

        int mistaken() {
            int bits = 0;
            for (int i = 0; i < dots(); i++) {
                for (int j = 0; j < dots(); j++) {
                    if (where.get(i) != OUT && fromMiddle(i, j) < fromMiddle(i, i)) {
                        bits |= 1 << i;
                    }
                }
            }
            return bits;
        }

        /** How far the middle cell of one, where it is laid, is from the dot of another. */
        int fromMiddle(int i, int dot) {
            Name one = name(i);
            Name other = name(dot);
            if (one == null || other == null) {
                return 0;
            }
            int place = where.get(i);
            int length = one.length(one.v);
            int middle = one.startAt(place, length) + length / 2;
            return Math.abs(middle - other.column) + Math.abs(one.lineAt(place) - other.line);
        }

        int covering(int column, int line) {
            int bits = 0;
            for (int i = 0; i < dots(); i++) {
                Name one = name(i);
                if (one != null && where.get(i) != OUT && one.covers(where.get(i), one.v, column, line)) {
                    bits |= 1 << i;
                }
            }
            return bits;
        }

        /** Whether all of seen is so, were one at a place with some v. */
        boolean isAllSeen(int i, int place, int ifV) {
            Name one = name(i);
            if (one == null) {
                return false;
            }
            for (int k = 0; k < seen.size() / 3; k++) {
                int column = seen.get(3 * k);
                int line = seen.get(3 * k + 1);
                boolean is = (covering(column, line) & ~(1 << i)) != 0
                        || (place != OUT && one.covers(place, ifV, column, line));
                if (is != (seen.get(3 * k + 2) != 0)) {
                    return false;
                }
            }
            return true;
        }

        /** Where all are when the plan is done; good till it is asked again. */
        Row planned() {
            then.become(where);
            for (int k = 0; k < plan.size() / 2; k++) {
                int i = plan.get(2 * k);
                int place = plan.get(2 * k + 1);
                if (place == OUT || hasBit(free(i, then), place)) {
                    then.set(i, place);
                }
            }
            return then;
        }
    }

    /** Goes through ways and orders; what it found last stands till the next search. */
    private static final class Search {
        private final Sheet sheet;
        private final Row allowed = new Row(DOTS);
        private final Row values = new Row(DOTS * PLACES);
        private final Row clashes = new Row(DOTS * PLACES);
        private final Row tops = new Row(DOTS);
        private final Row now = new Row(DOTS);
        private final Row found = new Row(DOTS);
        private boolean isFound;
        private int dots, total, bonus;

        Search(Sheet sheet) {
            this.sheet = sheet;
        }

        int found(int i) {
            return found.get(i);
        }

        int howMany() {
            return bonus > 0 ? Math.floorDiv(total + bonus / 2, bonus) : 0;
        }

        int score() {
            return total - howMany() * bonus;
        }

        void bestWay(int aBonus) {
            begin(sheet.wide);
            value(aBonus);
            for (int i = 0; i < dots; i++) {
                allowed.set(i, allowed.get(i) | OUT_BIT);
            }
            goWays();
        }

        boolean canAllBeIn(int wide, int set) {
            begin(wide);
            for (int i = 0; i < dots; i++) {
                allowed.set(i, allowed.get(i) & set);
            }
            goWays();
            return isFound;
        }

        /** How few are moved for one more to be in, or -1. */
        int fewestMoves(int name) {
            begin(sheet.wide);
            for (int i = 0; i < dots; i++) {
                int place = sheet.where.get(i);
                if (i != name && place == OUT) {
                    allowed.set(i, OUT_BIT);
                } else if (i != name) {
                    setMoves(i, place);
                }
            }
            goWays();
            return isFound ? -total : -1;
        }

        private void setMoves(int i, int stays) {
            for (int place = 0; place < PLACES; place++) {
                values.set(i * PLACES + place, place == stays ? 0 : -1);
            }
        }

        void takeInLine() {
            begin(sheet.wide);
            value(ONE_MORE);
            int blocked = 0;
            for (int i = 0; i < dots; i++) {
                int place = dearest(i, blocked);
                blocked |= clashesOf(i, place);
                total += valueOf(i, place);
            }
        }

        void bestOrder() {
            begin(sheet.wide);
            value(ONE_MORE);
            lineUp(0, 0, 0, 0, hopes());
        }

        private void begin(int wide) {
            dots = Math.min(sheet.dots(), DOTS);
            isFound = false;
            total = 0;
            bonus = 0;
            for (int i = 0; i < dots; i++) {
                allowed.set(i, sheet.fitting(i, wide));
                for (int place = 0; place < PLACES; place++) {
                    values.set(i * PLACES + place, 0);
                    clashes.set(i * PLACES + place, clashing(i, place));
                }
            }
        }

        /** The other names' places that a name at a place clashes with, as bits. */
        private int clashing(int i, int place) {
            int bits = 0;
            for (int other = 0; other < dots; other++) {
                for (int there = 0; there < PLACES; there++) {
                    if (other != i && sheet.shared(i, place, other, there) > 0) {
                        bits |= 1 << (other * PLACES + there);
                    }
                }
            }
            return bits;
        }

        private void value(int aBonus) {
            bonus = aBonus;
            for (int i = 0; i < dots; i++) {
                for (int place = 0; place < PLACES; place++) {
                    values.set(i * PLACES + place, aBonus + sheet.goodness(i, place));
                }
            }
        }

        private int clashesOf(int i, int place) {
            return place == OUT ? 0 : clashes.get(i * PLACES + place);
        }

        private int valueOf(int i, int place) {
            return place == OUT ? 0 : values.get(i * PLACES + place);
        }

        /** The allowed place of the greatest value that is not blocked; OUT, if there is none. */
        private int dearest(int i, int blocked) {
            int dearest = OUT;
            for (int place = 0; place < PLACES; place++) {
                if (isOpen(i, place, blocked) && (dearest == OUT || valueOf(i, place) > valueOf(i, dearest))) {
                    dearest = place;
                }
            }
            return dearest;
        }

        private boolean isOpen(int i, int place, int blocked) {
            return hasBit(allowed.get(i), place) && (place == OUT || !hasBit(blocked, i * PLACES + place));
        }

        /** Sets the most that each name can give, and tells what these give together. */
        private int hopes() {
            int sum = 0;
            for (int i = 0; i < dots; i++) {
                int top = valueOf(i, dearest(i, 0));
                if (hasBit(allowed.get(i), OUT)) {
                    top = Math.max(top, 0);
                }
                tops.set(i, top);
                sum += top;
            }
            return sum;
        }

        private void goWays() {
            for (int i = 0; i < dots; i++) {
                if (allowed.get(i) == 0) {
                    return;
                }
            }
            goOn(0, 0, 0, hopes());
        }

        // Ways come in the order of their rows, so only a better one takes the place of one found.
        private void goOn(int i, int blocked, int sum, int hope) {
            if (isFound && sum + hope <= total) {
                return;
            }
            if (i >= dots) {
                find(sum);
                return;
            }
            for (int place = RIGHT; place <= OUT; place++) {
                if (isOpen(i, place, blocked)) {
                    goBy(i, place, blocked, sum, hope);
                }
            }
        }

        private void goBy(int i, int place, int blocked, int sum, int hope) {
            now.set(i, place);
            goOn(i + 1, blocked | clashesOf(i, place), sum + valueOf(i, place), hope - tops.get(i));
        }

        private void lineUp(int k, int used, int blocked, int sum, int hope) {
            if (isFound && sum + hope <= total) {
                return;
            }
            if (k >= dots) {
                find(sum);
                return;
            }
            for (int i = 0; i < dots; i++) {
                if (!hasBit(used, i)) {
                    lineUpWith(i, k, used, blocked, sum, hope);
                }
            }
        }

        private void lineUpWith(int i, int k, int used, int blocked, int sum, int hope) {
            int place = dearest(i, blocked);
            now.set(k, i);
            lineUp(k + 1, used | (1 << i), blocked | clashesOf(i, place),
                    sum + valueOf(i, place), hope - tops.get(i));
        }

        private void find(int sum) {
            found.become(now);
            isFound = true;
            total = sum;
        }
    }
}
