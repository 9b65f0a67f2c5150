import java.util.Random;

/** Long runs of calls with seeded chance, each answer held against the slow model's. */
public final class RandomRunsTest {
    private static final int[] WILD = {Integer.MIN_VALUE, -10001, -3, -2, -1, 7, 8, 10, 12, 16, 17, 30, 31, 100,
        128, 65536, Integer.MAX_VALUE - 9, Integer.MAX_VALUE};

    private final Random chance;
    private final NamesNoTouch fast = new NamesNoTouch();
    private final SlowNames slow = new SlowNames();
    private final StringBuilder told = new StringBuilder();
    private final int wildness;
    private final int breadth;
    private final int lines;
    private final boolean isCrowded;
    private String rest = "";
    private static int wrong = 0;
    private static int asked = 0;

    private RandomRunsTest(int seed) {
        chance = new Random(seed);
        wildness = new int[] {0, 3, 12}[seed % 3];
        isCrowded = seed % 4 == 0;
        breadth = isCrowded ? 7 : new int[] {30, 12, 18}[seed / 3 % 3];
        lines = isCrowded ? 4 : new int[] {4, 12, 3, 7}[seed / 9 % 4];
    }

    public static void main(String[] args) {
        int first = args.length > 0 ? Integer.parseInt(args[0]) : 1;
        int last = args.length > 1 ? Integer.parseInt(args[1]) : 120;
        for (int seed = first; seed <= last && wrong == 0; seed++) {
            new RandomRunsTest(seed).run(seed);
        }
        System.out.println(asked + " answers, " + wrong + " not as due");
        if (wrong != 0 || asked == 0) {
            System.exit(1);
        }
    }

    private void run(int seed) {
        for (int call = 0; call < 512 && wrong == 0; call++) {
            step();
        }
        if (wrong != 0) {
            System.out.println("seed " + seed + ": " + told);
        }
    }

    private void same(String call, long got, long want) {
        asked++;
        told.append(call).append(' ').append(got).append("; ");
        if (got != want) {
            wrong++;
            System.out.println(call + " answered " + got + ", due is " + want);
        }
    }

    private int upTo(int n) {
        return chance.nextInt(n);
    }

    /** A number below n, now and then one that is not. */
    private int some(int n) {
        if (upTo(100) < wildness) {
            return upTo(3) == 0 ? n : WILD[upTo(WILD.length)];
        }
        return upTo(n);
    }

    private int name() {
        return some(Math.max(1, slow.s.ones.size()));
    }

    // ---- texts that are maps, or nearly

    private String test() {
        return "" + "nkvpxl".charAt(upTo(6)) + "<=>".charAt(upTo(3)) + upTo(upTo(4) == 0 ? 30 : 8);
    }

    private String factor(int deep) {
        int way = upTo(8);
        if (deep > 0 && way == 0) {
            return "!" + factor(deep - 1);
        }
        if (deep > 0 && way < 3) {
            return "(" + either(deep - 1) + ")";
        }
        return test();
    }

    private String either(int deep) {
        String e = factor(deep);
        while (upTo(3) == 0) {
            e += "&|".charAt(upTo(2)) + factor(deep);
        }
        return e;
    }

    private String clause() {
        switch (upTo(6)) {
            case 0: return "wide " + upTo(36);
            case 1: return "river " + upTo(upTo(3) == 0 ? 60 : breadth);
            case 2: return "bore " + upTo(40) + " " + either(5);
            default: return "love " + upTo(20) + " " + either(4);
        }
    }

    private String text() {
        String text = clause();
        while (upTo(3) != 0) {
            text += ";" + clause();
        }
        if (upTo(12) == 0) {
            text = "wide 9";
            for (int i = upTo(11); i > 0; i--) {
                text += ";river " + upTo(9);
            }
        }
        if (upTo(3) == 0) {
            int place = upTo(text.length());
            String signs = " 0159;|&!()nkvpxl<=>wrlbide~";
            String put = upTo(3) == 0 ? "" : "" + signs.charAt(upTo(signs.length()));
            text = text.substring(0, place) + put + text.substring(Math.min(text.length(), place + upTo(2)));
        }
        return text;
    }

    private void feeding() {
        if (rest.isEmpty()) {
            rest = text();
        }
        int sign = upTo(200) < wildness ? new int[] {-1, 128, 0, 127, Integer.MIN_VALUE}[upTo(5)] : rest.charAt(0);
        rest = rest.substring(1);
        same("feed(" + sign + ")", fast.feed(sign), slow.feed(sign));
    }

    private void step() {
        if (!rest.isEmpty()) {
            feeding();
            if (rest.isEmpty()) {
                same("map()", fast.map(), slow.map());
            }
            return;
        }
        int way = upTo(100);
        if (isCrowded && upTo(3) == 0 && slow.s.ones.size() < 6) {
            choosing();
        } else if (way < 12) {
            laying();
        } else if (way < 22) {
            dotting();
        } else if (way < 52) {
            asking();
        } else if (way < 58) {
            choosing();
        } else if (way < 76) {
            writing();
        } else if (way < 97) {
            acting();
        } else {
            if (upTo(4) == 0 || slow.s.maps < 5) {
                feeding();
            } else {
                same("map()", fast.map(), slow.map());
            }
        }
    }

    private void laying() {
        int i = name();
        int p = some(4);
        if (upTo(3) == 0) {
            same("lift(" + i + ")", fast.lift(i), slow.lift(i));
        } else {
            same("lay(" + i + "," + p + ")", fast.lay(i, p), slow.lay(i, p));
        }
    }

    private void dotting() {
        int i = name();
        int k = some(4);
        int n = some(10);
        if (upTo(2) == 0 && !slow.s.ones.isEmpty()) {
            same("row(" + i + "," + k + "," + n + ")", fast.row(i, k, n), slow.row(i, k, n));
            return;
        }
        int kind = some(7);
        int v = some(10);
        int letters = upTo(100) < wildness ? WILD[upTo(WILD.length)] : 1 + upTo(isCrowded ? 4 : 9);
        int column = some(breadth);
        int line = some(lines);
        same("dot(" + kind + "," + v + "," + letters + "," + column + "," + line + ")",
                fast.dot(kind, v, letters, column, line), slow.dot(kind, v, letters, column, line));
    }

    private void asking() {
        int i = name();
        int j = name();
        int p = some(4);
        int q = some(4);
        int what = some(10);
        int less = some(6);
        int two = some(2);
        switch (upTo(12)) {
            case 0: case 1: same("of(" + i + "," + what + ")", fast.of(i, what), slow.of(i, what)); break;
            case 2: case 3: same("good(" + i + "," + p + ")", fast.good(i, p), slow.good(i, p)); break;
            case 4: same("told(" + less + ")", fast.told(less), slow.told(less)); break;
            case 5: same("clash(" + i + "," + p + "," + j + "," + q + ")", fast.clash(i, p, j, q),
                    slow.clash(i, p, j, q)); break;
            case 6: {
                int column = some(30);
                int line = some(12);
                same("at(" + column + "," + line + ")", fast.at(column, line), slow.at(column, line));
                break;
            }
            case 7: same("far(" + i + ")", fast.far(i), slow.far(i)); break;
            case 8: same("can(" + i + ")", fast.can(i), slow.can(i)); break;
            case 9: same("firm(" + i + "," + two + ")", fast.firm(i, two), slow.firm(i, two)); break;
            case 10: same("odds(" + i + "," + two + ")", fast.odds(i, two), slow.odds(i, two)); break;
            default: same("mean(" + two + ")", fast.mean(two), slow.mean(two)); break;
        }
    }

    private void choosing() {
        int i = name();
        int two = some(2);
        int what = upTo(2) == 0 ? 10 + i : two;
        int set = 1 + some(15);
        int k = -2 + some(9);
        switch (upTo(isCrowded ? 9 : 7)) {
            case 0: same("most(" + what + ")", fast.most(what), slow.most(what)); break;
            case 1: same("best(" + what + ")", fast.best(what), slow.best(what)); break;
            case 2: same("all(" + set + ")", fast.all(set), slow.all(set)); break;
            case 3: same("room()", fast.room(), slow.room()); break;
            case 4: case 7: case 8: same("moved(" + i + ")", fast.moved(i), slow.moved(i)); break;
            case 5: same("inline(" + two + ")", fast.inline(two), slow.inline(two)); break;
            default: same("order(" + k + ")", fast.order(k), slow.order(k)); break;
        }
    }

    private void writing() {
        int i = upTo(12) == 0 ? -1 : name();
        int p = some(5);
        int two = some(2);
        switch (upTo(6)) {
            case 0: {
                int column = upTo(12) == 0 ? -1 : some(breadth);
                int line = some(lines);
                boolean is = slow.at(column, line) > 0 ^ upTo(5) == 0;
                same("see(" + column + "," + line + "," + is + ")", fast.see(column, line, is),
                        slow.see(column, line, is));
                break;
            }
            case 1: same("plan(" + i + "," + p + ")", fast.plan(i, p), slow.plan(i, p)); break;
            case 2: same("done(" + two + ")", fast.done(two), slow.done(two)); break;
            case 3: {
                int is = slow.no(i) || upTo(4) == 0 ? p : slow.s.ones.get(i).laid;
                same("book(" + i + "," + is + ")", fast.book(i, is), slow.book(i, is));
                break;
            }
            default: same("looked()", fast.looked(), slow.looked()); break;
        }
    }

    private void acting() {
        int i = name();
        int act = some(3);
        int x = upTo(3) == 0 ? chance.nextInt() : some(20) - 10;
        int k = some(7);
        int what = some(7);
        switch (upTo(12)) {
            case 0: case 1: case 2: case 3:
                same("act(" + i + "," + act + "," + x + ")", fast.act(i, act, x), slow.act(i, act, x)); break;
            case 4: case 5: same("trace(" + k + ")", fast.trace(k), slow.trace(k)); break;
            case 6: case 7: same("as(" + i + "," + k + ")", fast.as(i, k), slow.as(i, k)); break;
            case 8: case 9: same("count(" + what + ")", fast.count(what), slow.count(what)); break;
            case 10: same("image()", fast.image(), slow.image()); break;
            default:
                if (upTo(3) == 0) {
                    same("undo()", fast.undo(), slow.undo());
                } else {
                    same("count(6)", fast.count(6), slow.count(6));
                }
                break;
        }
    }
}
