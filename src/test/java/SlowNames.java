import java.util.ArrayList;
import java.util.Arrays;
import java.util.HashSet;
import java.util.List;
import java.util.Set;

/** The document done once more in the slowest and most literal way, to hold the program against. */
final class SlowNames {
    static final int OUT = 4;

    static final class One {
        int kind, v, letters, column, row, laid = OUT;
        int[] places = new int[4];

        One copy() {
            One c = new One();
            c.kind = kind;
            c.v = v;
            c.letters = letters;
            c.column = column;
            c.row = row;
            c.laid = laid;
            c.places = places.clone();
            return c;
        }
    }

    static final class State {
        List<One> ones = new ArrayList<>();
        StringBuilder tape = new StringBuilder();
        String map = null;
        int maps = 0;
        List<int[]> seen = new ArrayList<>();
        List<int[]> plan = new ArrayList<>();
        List<int[]> book = new ArrayList<>();

        State copy() {
            State c = new State();
            for (One o : ones) {
                c.ones.add(o.copy());
            }
            c.tape.append(tape);
            c.map = map;
            c.maps = maps;
            c.seen.addAll(seen);
            c.plan.addAll(plan);
            c.book.addAll(book);
            return c;
        }
    }

    State s = new State();
    State image = null;
    List<Integer> trace = new ArrayList<>();

    // ---- the map: byte by byte, by which bytes may come next

    /** The fault, or -1 where the text is a map. */
    static int fault(String text) {
        String mode = "clause";
        String word = "";
        int clauses = 1;
        String digits = "";
        boolean taste = false;
        StringBuilder open = new StringBuilder();
        for (int i = 0; i < text.length(); i++) {
            char c = text.charAt(i);
            switch (mode) {
                case "clause": {
                    word += c;
                    boolean some = false;
                    for (String w : new String[] {"wide ", "river ", "love ", "bore "}) {
                        some |= w.startsWith(word);
                        if (w.equals(word)) {
                            mode = "n";
                            taste = w.equals("love ") || w.equals("bore ");
                            digits = "";
                        }
                    }
                    if (!some) {
                        return i;
                    }
                    break;
                }
                case "n":
                    if (c >= '0' && c <= '9') {
                        if (digits.equals("0") || digits.length() == 2) {
                            return i;
                        }
                        digits += c;
                    } else if (digits.isEmpty()) {
                        return i;
                    } else if (taste && c == ' ') {
                        mode = "factor";
                        open.setLength(0);
                    } else if (!taste && c == ';') {
                        if (clauses == 10) {
                            return i;
                        }
                        clauses++;
                        mode = "clause";
                        word = "";
                    } else {
                        return i;
                    }
                    break;
                case "factor":
                    if (c == '!' || c == '(') {
                        if (open.length() == 5) {
                            return i;
                        }
                        open.append(c);
                    } else if ("nkvpxl".indexOf(c) >= 0) {
                        mode = "sign";
                    } else {
                        return i;
                    }
                    break;
                case "sign":
                    if ("<=>".indexOf(c) < 0) {
                        return i;
                    }
                    mode = "number";
                    digits = "";
                    break;
                default: // number, or behind a )
                    if (mode.equals("number") && c >= '0' && c <= '9') {
                        if (digits.equals("0") || digits.length() == 2) {
                            return i;
                        }
                        digits += c;
                        break;
                    }
                    if (mode.equals("number") && digits.isEmpty()) {
                        return i;
                    }
                    while (open.length() > 0 && open.charAt(open.length() - 1) == '!') {
                        open.setLength(open.length() - 1);
                    }
                    if (c == '&' || c == '|') {
                        mode = "factor";
                    } else if (c == ')' && open.length() > 0) {
                        open.setLength(open.length() - 1);
                        mode = "behind";
                    } else if (c == ';' && open.length() == 0 && clauses < 10) {
                        clauses++;
                        mode = "clause";
                        word = "";
                    } else {
                        return i;
                    }
                    break;
            }
        }
        while (open.length() > 0 && open.charAt(open.length() - 1) == '!') {
            open.setLength(open.length() - 1);
        }
        boolean ends = mode.equals("n") && !digits.isEmpty() && !taste
                || mode.equals("number") && !digits.isEmpty() && open.length() == 0
                || mode.equals("behind") && open.length() == 0;
        return ends ? -1 : text.length();
    }

    String[] clauses() {
        return s.map == null ? new String[0] : s.map.split(";");
    }

    int wide() {
        int wide = 24;
        for (String c : clauses()) {
            if (c.startsWith("wide ")) {
                wide = Math.max(10, Math.min(30, Integer.parseInt(c.substring(5))));
            }
        }
        return wide;
    }

    int river() {
        int river = 99;
        for (String c : clauses()) {
            if (c.startsWith("river ")) {
                river = Integer.parseInt(c.substring(6));
            }
        }
        return river;
    }

    /** Splits at the last such sign that stands in no ( ), for the grammar read from behind. */
    static int outer(String e, char sign) {
        int depth = 0;
        for (int i = e.length() - 1; i >= 0; i--) {
            char c = e.charAt(i);
            depth += c == ')' ? 1 : c == '(' ? -1 : 0;
            if (c == sign && depth == 0) {
                return i;
            }
        }
        return -1;
    }

    boolean holds(String e, int i, int place) {
        int or = outer(e, '|');
        if (or >= 0) {
            return holds(e.substring(0, or), i, place) | holds(e.substring(or + 1), i, place);
        }
        int and = outer(e, '&');
        if (and >= 0) {
            return holds(e.substring(0, and), i, place) & holds(e.substring(and + 1), i, place);
        }
        if (e.startsWith("!")) {
            return !holds(e.substring(1), i, place);
        }
        if (e.startsWith("(")) {
            return holds(e.substring(1, e.length() - 1), i, place);
        }
        One o = s.ones.get(i);
        int[] all = {i, o.kind, o.v, place, o.column / 3, o.letters};
        int left = all["nkvpxl".indexOf(e.charAt(0))];
        int right = Integer.parseInt(e.substring(2));
        return e.charAt(1) == '<' ? left < right : e.charAt(1) == '=' ? left == right : left > right;
    }

    // ---- cells

    static int length(One o, int v) {
        int shy = Math.max(1, o.letters - v / 3);
        return new int[] {o.letters, o.letters + o.letters / 2, o.letters, shy,
            o.letters + o.letters / 2 + 1, o.letters, shy}[o.kind];
    }

    static List<List<Integer>> cells(One o, int place, int v) {
        List<List<Integer>> cells = new ArrayList<>();
        for (int i = 0; i < length(o, v); i++) {
            switch (place) {
                case 0: cells.add(List.of(o.column + 1 + i, o.row)); break;
                case 1: cells.add(List.of(o.column - length(o, v) + i, o.row)); break;
                case 2: cells.add(List.of(o.column + i, o.row - 1)); break;
                case 3: cells.add(List.of(o.column + i, o.row + 1)); break;
                default: break;
            }
        }
        return cells;
    }

    List<List<Integer>> cells(int i, int place) {
        return cells(s.ones.get(i), place, s.ones.get(i).v);
    }

    boolean may(int i, int place) {
        One o = s.ones.get(i);
        switch (o.kind) {
            case 1: return place == 0 || place == 1;
            case 2: return place == 0 || place == 3;
            case 3: return place == 2 || place == 3;
            case 5: return place == 0;
            case 6: return o.places[place] > 0;
            default: return true;
        }
    }

    boolean fits(int i, int place, int wide) {
        if (!may(i, place)) {
            return false;
        }
        for (List<Integer> c : cells(i, place)) {
            if (c.get(0) < 0 || c.get(0) >= wide || c.get(1) < 0 || c.get(1) > 11) {
                return false;
            }
            for (One o : s.ones) {
                if (o.column == c.get(0) && o.row == c.get(1)) {
                    return false;
                }
            }
        }
        return true;
    }

    int shared(int i, int place, int j, int where) {
        Set<List<Integer>> both = new HashSet<>(cells(i, place));
        both.retainAll(cells(j, where));
        return both.size();
    }

    int[] laid() {
        int[] laid = new int[s.ones.size()];
        for (int i = 0; i < laid.length; i++) {
            laid[i] = s.ones.get(i).laid;
        }
        return laid;
    }

    boolean free(int i, int place, int[] laid) {
        if (!fits(i, place, wide())) {
            return false;
        }
        for (int j = 0; j < laid.length; j++) {
            if (j != i && laid[j] != OUT && shared(i, place, j, laid[j]) > 0) {
                return false;
            }
        }
        return true;
    }

    int goodness(int i, int place) {
        int sum = 10;
        for (String c : clauses()) {
            if (c.startsWith("love ") || c.startsWith("bore ")) {
                String[] parts = c.split(" ");
                if (holds(parts[2], i, place)) {
                    sum += (c.startsWith("love") ? 1 : -1) * Integer.parseInt(parts[1]);
                }
            }
        }
        for (List<Integer> c : cells(i, place)) {
            if (c.get(0) == river()) {
                return sum - 5;
            }
        }
        return sum;
    }

    int score(int[] laid) {
        int sum = 0;
        for (int i = 0; i < laid.length; i++) {
            sum += laid[i] == OUT ? 0 : goodness(i, laid[i]);
        }
        return sum;
    }

    static int in(int[] laid) {
        int in = 0;
        for (int place : laid) {
            in += place == OUT ? 0 : 1;
        }
        return in;
    }

    // ---- ways: all of them, in the order of their rows

    /** All ways on a sheet so wide. */
    List<int[]> ways(int wide) {
        int n = s.ones.size();
        boolean[][] fits = new boolean[n][4];
        boolean[][][][] clash = new boolean[n][4][n][4];
        for (int i = 0; i < n; i++) {
            for (int p = 0; p < 4; p++) {
                fits[i][p] = fits(i, p, wide);
                for (int j = 0; j < n; j++) {
                    for (int q = 0; q < 4; q++) {
                        clash[i][p][j][q] = i != j && shared(i, p, j, q) > 0;
                    }
                }
            }
        }
        List<int[]> ways = new ArrayList<>();
        ways.add(new int[0]);
        for (int i = 0; i < n; i++) {
            List<int[]> longer = new ArrayList<>();
            for (int[] way : ways) {
                for (int p = 0; p <= OUT; p++) {
                    boolean is = p == OUT || fits[i][p];
                    for (int j = 0; is && p != OUT && j < i; j++) {
                        is = way[j] == OUT || !clash[i][p][j][way[j]];
                    }
                    if (is) {
                        int[] w = Arrays.copyOf(way, i + 1);
                        w[i] = p;
                        longer.add(w);
                    }
                }
            }
            ways = longer;
        }
        return ways;
    }

    int[] chosen(boolean most) {
        int n = s.ones.size();
        int[][] good = new int[n][5];
        for (int i = 0; i < n; i++) {
            for (int p = 0; p < 4; p++) {
                good[i][p] = goodness(i, p);
            }
        }
        int[] best = null;
        int bestIn = 0;
        int bestScore = 0;
        for (int[] w : ways(wide())) {
            int in = most ? in(w) : 0;
            int score = 0;
            for (int i = 0; i < n; i++) {
                score += good[i][w[i]];
            }
            if (best == null || in > bestIn || in == bestIn && score > bestScore) {
                best = w;
                bestIn = in;
                bestScore = score;
            }
        }
        return best;
    }

    boolean allIn(int wide, int set) {
        for (int[] w : ways(wide)) {
            boolean is = true;
            for (int place : w) {
                is &= place != OUT && (set >> place & 1) != 0;
            }
            if (is) {
                return true;
            }
        }
        return false;
    }

    // ---- orders

    /** Where all are by take of an order. */
    int[] take(List<Integer> order) {
        int[] laid = new int[s.ones.size()];
        Arrays.fill(laid, OUT);
        for (int i : order) {
            int best = OUT;
            for (int p = 3; p >= 0; p--) {
                if (free(i, p, laid) && (best == OUT || goodness(i, p) >= goodness(i, best))) {
                    best = p;
                }
            }
            laid[i] = best;
        }
        return laid;
    }

    void orders(List<Integer> begun, List<List<Integer>> all) {
        if (begun.size() == s.ones.size()) {
            all.add(new ArrayList<>(begun));
        }
        for (int i = 0; i < s.ones.size(); i++) {
            if (!begun.contains(i)) {
                begun.add(i);
                orders(begun, all);
                begun.remove(begun.size() - 1);
            }
        }
    }

    List<Integer> bestOrder() {
        List<List<Integer>> all = new ArrayList<>();
        orders(new ArrayList<>(), all);
        List<Integer> best = null;
        int bestIn = 0;
        int bestScore = 0;
        for (List<Integer> o : all) {
            int[] laid = take(o);
            int in = in(laid);
            int score = score(laid);
            if (best == null || in > bestIn || in == bestIn && score > bestScore) {
                best = o;
                bestIn = in;
                bestScore = score;
            }
        }
        return best;
    }

    List<Integer> lined() {
        List<Integer> order = new ArrayList<>();
        for (int i = 0; i < s.ones.size(); i++) {
            order.add(i);
        }
        return order;
    }

    // ---- the face

    boolean no(int name) {
        return name < 0 || name >= s.ones.size();
    }

    static boolean noPlace(int place) {
        return place < 0 || place > 3;
    }

    static int out(int place) {
        return place == OUT ? -5 : place;
    }

    int feed(int sign) {
        if (sign < 0 || sign > 127) {
            return -2;
        }
        if (s.tape.length() == 100) {
            return -4;
        }
        s.tape.append((char) sign);
        return s.tape.length();
    }

    int map() {
        if (s.maps == 5) {
            return -4;
        }
        String text = s.tape.toString();
        s.tape.setLength(0);
        int fault = fault(text);
        if (fault >= 0) {
            return -10 - fault;
        }
        s.map = text;
        return s.maps++;
    }

    int dot(int kind, int v, int letters, int column, int row) {
        if (kind < 0 || kind > 6) {
            return -1;
        }
        if (v < 0 || v > 9 || letters < 1 || letters > 9 || column < 0 || column > 29 || row < 0 || row > 11) {
            return -2;
        }
        for (One o : s.ones) {
            if (o.column == column && o.row == row) {
                return -2;
            }
        }
        if (s.ones.size() == 7) {
            return -4;
        }
        One o = new One();
        o.kind = kind;
        o.v = v;
        o.letters = letters;
        o.column = column;
        o.row = row;
        s.ones.add(o);
        return s.ones.size() - 1;
    }

    int of(int name, int what) {
        if (no(name) || what < 0 || what > 9) {
            return -1;
        }
        One o = s.ones.get(name);
        if (what < 7) {
            return new int[] {o.kind, o.v, o.letters, o.column, o.row, length(o, o.v), out(o.laid)}[what];
        }
        int bits = 0;
        for (int p = 0; p < 4; p++) {
            if (what == 7 && may(name, p) || what == 8 && fits(name, p, wide()) || what == 9 && free(name, p, laid())) {
                bits += 1 << p;
            }
        }
        return bits;
    }

    int row(int name, int k, int n) {
        if (no(name) || noPlace(k)) {
            return -1;
        }
        if (n < 0 || n > 9) {
            return -2;
        }
        One o = s.ones.get(name);
        if (o.kind != 6) {
            return -3;
        }
        int was = o.places[k];
        o.places[k] = n;
        return was;
    }

    int good(int name, int place) {
        return no(name) || noPlace(place) ? -10001 : goodness(name, place);
    }

    int lay(int name, int place) {
        if (no(name) || noPlace(place)) {
            return -1;
        }
        if (!free(name, place, laid())) {
            return -3;
        }
        int was = s.ones.get(name).laid;
        s.ones.get(name).laid = place;
        return out(was);
    }

    int lift(int name) {
        if (no(name)) {
            return -1;
        }
        int was = s.ones.get(name).laid;
        s.ones.get(name).laid = OUT;
        return out(was);
    }

    int middleFrom(int i, int j) {
        List<List<Integer>> cells = cells(i, s.ones.get(i).laid);
        List<Integer> middle = cells.get(cells.size() / 2);
        One o = s.ones.get(j);
        return Math.abs(middle.get(0) - o.column) + Math.abs(middle.get(1) - o.row);
    }

    int told(int what) {
        int mistaken = 0;
        int laid = 0;
        for (int i = 0; i < s.ones.size(); i++) {
            if (s.ones.get(i).laid != OUT) {
                laid += 1 << i;
                boolean is = false;
                for (int j = 0; j < s.ones.size(); j++) {
                    is |= middleFrom(i, j) < middleFrom(i, i);
                }
                mistaken += is ? 1 << i : 0;
            }
        }
        switch (what) {
            case 0: return wide();
            case 1: return river();
            case 2: return in(laid());
            case 3: return score(laid());
            case 4: return mistaken;
            case 5: return laid;
            default: return -10001;
        }
    }

    int clash(int one, int place, int other, int where) {
        if (no(one) || noPlace(place) || no(other) || noPlace(where)) {
            return -1;
        }
        return one == other ? -2 : shared(one, place, other, where);
    }

    int at(int column, int row) {
        if (column < 0 || column > 29 || row < 0 || row > 11) {
            return -1;
        }
        int bits = 0;
        for (int i = 0; i < s.ones.size(); i++) {
            bits += cells(i, s.ones.get(i).laid).contains(List.of(column, row)) ? 1 << i : 0;
        }
        return bits;
    }

    int most(int what) {
        if (what != 0 && what != 1 && (what < 10 || no(what - 10))) {
            return -10001;
        }
        int[] way = chosen(true);
        return what == 0 ? in(way) : what == 1 ? score(way) : out(way[what - 10]);
    }

    int best(int what) {
        if (what != 0 && (what < 10 || no(what - 10))) {
            return -10001;
        }
        int[] way = chosen(false);
        return what == 0 ? score(way) : out(way[what - 10]);
    }

    int all(int set) {
        return set < 1 || set > 15 ? -2 : allIn(wide(), set) ? 1 : 0;
    }

    int room() {
        for (int wide = 10; wide <= 30; wide++) {
            if (allIn(wide, 15)) {
                return wide;
            }
        }
        return -5;
    }

    int moved(int name) {
        if (no(name)) {
            return -1;
        }
        if (s.ones.get(name).laid != OUT) {
            return -5;
        }
        int fewest = -5;
        for (int[] way : ways(wide())) {
            boolean is = way[name] != OUT;
            int moves = 0;
            for (int i = 0; i < way.length; i++) {
                if (i != name) {
                    is &= (way[i] == OUT) == (s.ones.get(i).laid == OUT);
                    moves += way[i] != s.ones.get(i).laid ? 1 : 0;
                }
            }
            if (is && (fewest == -5 || moves < fewest)) {
                fewest = moves;
            }
        }
        return fewest;
    }

    int inline(int what) {
        if (what != 0 && what != 1) {
            return -10001;
        }
        int[] laid = take(lined());
        return what == 0 ? in(laid) : score(laid);
    }

    int order(int k) {
        if (k < -2 || k > 6) {
            return -10001;
        }
        List<Integer> best = bestOrder();
        if (k < 0) {
            int[] laid = take(best);
            return k == -2 ? in(laid) : score(laid);
        }
        return k < best.size() ? best.get(k) : -5;
    }

    int far(int name) {
        if (no(name)) {
            return -1;
        }
        return s.ones.get(name).laid == OUT ? -5 : middleFrom(name, name);
    }

    int see(int column, int row, boolean is) {
        if (column == -1) {
            s.seen.clear();
            return 0;
        }
        if (column < 0 || column > 29 || row < 0 || row > 11) {
            return -1;
        }
        if (s.seen.size() == 5) {
            return -4;
        }
        s.seen.add(new int[] {column, row, is ? 1 : 0});
        return s.seen.size();
    }

    boolean allSeen() {
        for (int[] seen : s.seen) {
            if ((at(seen[0], seen[1]) != 0) != (seen[2] == 1)) {
                return false;
            }
        }
        return true;
    }

    int can(int name) {
        if (no(name)) {
            return -1;
        }
        int was = s.ones.get(name).laid;
        int bits = 0;
        for (int p = 0; p <= OUT; p++) {
            s.ones.get(name).laid = p;
            bits += allSeen() ? 1 << p : 0;
        }
        s.ones.get(name).laid = was;
        return bits;
    }

    int firm(int name, int what) {
        if (no(name) || what != 0 && what != 1) {
            return -1;
        }
        int was = s.ones.get(name).v;
        int many = 0;
        int least = -5;
        for (int v = 0; v < 10; v++) {
            s.ones.get(name).v = v;
            if (allSeen()) {
                many++;
                least = least == -5 ? v : least;
            }
        }
        s.ones.get(name).v = was;
        return what == 0 ? many : least;
    }

    static long part(long above, long below, int part) {
        if (below == 0 || part != 0 && part != 1) {
            return Long.MIN_VALUE;
        }
        long g = java.math.BigInteger.valueOf(above).gcd(java.math.BigInteger.valueOf(below)).longValue();
        return part == 0 ? above / g : below / g;
    }

    long odds(int name, int part) {
        if (no(name)) {
            return Long.MIN_VALUE;
        }
        return part(Integer.bitCount(of(name, 9)), Integer.bitCount(of(name, 7)), part);
    }

    long mean(int part) {
        return part(score(laid()), in(laid()), part);
    }

    int write(List<int[]> rows, int name, int place) {
        if (name == -1) {
            rows.clear();
            return 0;
        }
        if (no(name) || place < 0 || place > 4) {
            return -1;
        }
        if (rows.size() == 8) {
            return -4;
        }
        rows.add(new int[] {name, place});
        return rows.size();
    }

    int plan(int name, int place) {
        return write(s.plan, name, place);
    }

    int done(int what) {
        if (what != 0 && what != 1) {
            return -10001;
        }
        int[] laid = laid();
        for (int[] row : s.plan) {
            if (row[1] == OUT || free(row[0], row[1], laid)) {
                laid[row[0]] = row[1];
            }
        }
        return what == 0 ? in(laid) : score(laid);
    }

    int book(int name, int place) {
        return write(s.book, name, place);
    }

    int looked() {
        for (int i = 0; i < s.book.size(); i++) {
            if (s.ones.get(s.book.get(i)[0]).laid != s.book.get(i)[1]) {
                return i;
            }
        }
        return -5;
    }

    // ---- acts: a body by its kind and act, and the kind above it

    static final int[] ABOVE = {-1, 0, 0, 0, 1, 2, 3};

    static boolean under(int kind, int k) {
        for (int up = kind; up >= 0; up = ABOVE[up]) {
            if (up == k) {
                return true;
            }
        }
        return false;
    }

    int run(int i, int from, int act, int x) {
        One o = s.ones.get(i);
        int kind = from;
        while (true) {
            switch (kind * 10 + act + 1) {
                case 1: trace.add(1); return x + i;
                case 2: trace.add(2); return run(i, o.kind, 0, x) - o.v;
                case 3: trace.add(3); return run(i, o.kind, 1, x) * 2;
                case 11: trace.add(11); return run(i, 0, 0, x * 3);
                case 22: trace.add(21); return -run(i, 0, 1, x);
                case 33: trace.add(31); return run(i, 0, 2, x) ^ 7;
                case 43: trace.add(41); return run(i, 1, 2, x - 1) + run(i, o.kind, 0, 2);
                case 51: trace.add(51); return run(i, 2, 0, x) ^ i;
                case 62: trace.add(61); return run(i, 3, 1, x) + o.v;
                default: kind = ABOVE[kind];
            }
        }
    }

    int act(int name, int act, int x) {
        trace.clear();
        return no(name) || act < 0 || act > 2 ? 0 : run(name, s.ones.get(name).kind, act, x);
    }

    int trace(int i) {
        return i < 0 || i >= 20 || i >= trace.size() ? -1 : trace.get(i);
    }

    int as(int name, int k) {
        if (no(name) || k < 0 || k > 6) {
            return -1;
        }
        return under(s.ones.get(name).kind, k) ? s.ones.get(name).v : -6;
    }

    int image() {
        image = s.copy();
        return s.ones.size();
    }

    int undo() {
        if (image == null) {
            return -3;
        }
        s = image.copy();
        return s.ones.size();
    }

    int count(int what) {
        if (what < 0 || what > 6) {
            return -1;
        }
        return new int[] {s.ones.size(), s.maps, s.seen.size(), s.plan.size(), s.book.size(), s.tape.length(),
            trace.size()}[what];
    }
}
