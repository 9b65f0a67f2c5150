/** Refused calls and asking calls change nothing: what one that had such a call answers is what its twin answers. */
public final class RefusalsTest {
    private static final int NONE = Made.NONE, BAD = Made.BAD, STATE = Made.STATE, FULL = Made.FULL;
    private static final int UNTOLD = Made.UNTOLD, LEAST = Made.LEAST, GREATEST = Made.GREATEST;
    private static final int EMPTY = 0, SOME = 1, ALL_FULL = 2;

    private RefusalsTest() {
    }

    private interface Call {
        long on(NamesNoTouch x);
    }

    public static void main(String[] args) {
        refusedEverywhere(EMPTY);
        refusedEverywhere(SOME);
        refusedEverywhere(ALL_FULL);
        refusedWhereEmpty();
        refusedWhereThereIsSome();
        refusedWhereFull();
        refusalsInTheirOrder();
        askedChangesNothing(EMPTY);
        askedChangesNothing(SOME);
        askedChangesNothing(ALL_FULL);
        actsChangeTheTraceAlone();
        anImageChangesNothingElse();
        objectsAreNothingToOneAnother();
        Due.close();
    }

    // ---- what there is, and all that can be told of it

    private static NamesNoTouch made(int state) {
        NamesNoTouch x = new NamesNoTouch();
        if (state == SOME) {
            some(x);
        }
        if (state == ALL_FULL) {
            full(x);
        }
        return x;
    }

    private static void some(NamesNoTouch x) {
        x.dot(Made.TOLD, 4, 3, 10, 5);
        x.row(0, Made.ABOVE, 9);
        x.row(0, Made.LEFT, 1);
        x.dot(Made.SHY, 9, 5, 11, 3);
        x.dot(Made.HARBOUR, 1, 2, 20, 9);
        Made.read(x, "wide 26;river 12;love 3 k=6|p>1;bore 9 n=1");
        x.lay(0, Made.ABOVE);
        x.lay(2, Made.RIGHT);
        x.see(10, 4, true);
        x.see(12, 4, false);
        x.plan(0, Made.LEFT);
        x.plan(1, Made.BELOW);
        x.book(0, Made.ABOVE);
        x.book(1, Made.BELOW);
        x.act(0, 2, 3);
        x.image();
        x.lift(2);
        x.plan(2, Made.OUT);
        Made.feed(x, "river 9");
    }

    private static void full(NamesNoTouch x) {
        some(x);
        x.dot(Made.CITY, 2, 4, 3, 1);
        x.dot(Made.NAME, 0, 6, 3, 10);
        x.dot(Made.COASTAL, 5, 3, 20, 1);
        x.dot(Made.LARGE, 7, 2, 3, 7);
        x.lay(3, Made.BELOW);
        x.map();
        for (int i = 0; i < 3; i++) {
            Made.read(x, "wide 2" + i);
        }
        for (int i = 0; i < 6; i++) {
            x.see(i, 0, false);
            x.plan(i, 0);
            x.book(i, 4);
        }
        Made.feed(x, Made.times("wide 28;", 13));
    }

    private static String seen(NamesNoTouch x) {
        StringBuilder all = new StringBuilder();
        for (int what = 0; what < 6; what++) {
            all.append(x.count(what)).append(' ').append(x.told(what)).append(' ');
        }
        for (int i = 0; i < x.count(0); i++) {
            all.append("name ");
            for (int what = 0; what < 10; what++) {
                all.append(x.of(i, what)).append(' ');
            }
            for (int place = 0; place < 4; place++) {
                all.append(x.good(i, place)).append(' ');
            }
            all.append(x.far(i)).append(' ').append(x.can(i)).append(' ').append(x.firm(i, 0)).append(' ');
        }
        all.append(x.done(0)).append(' ').append(x.done(1)).append(' ').append(x.looked()).append(' ');
        return all.toString();
    }

    private static String traced(NamesNoTouch x) {
        StringBuilder all = new StringBuilder("trace " + x.count(6) + " ");
        for (int i = 0; i < 8; i++) {
            all.append(x.trace(i)).append(' ');
        }
        return all.toString();
    }

    /** What the rows were and what the tape comes to, which can be told by changing them alone. */
    private static String taken(NamesNoTouch x) {
        StringBuilder all = new StringBuilder("rows ");
        for (int k = 0; k < 4; k++) {
            all.append(x.row(0, k, 0)).append(' ');
        }
        all.append("map ").append(x.map()).append(' ').append(x.told(0)).append(' ').append(x.told(1)).append(' ');
        return all.toString();
    }

    /** What stands in the image; none of it can be told without going back to it. */
    private static String undone(NamesNoTouch x) {
        StringBuilder all = new StringBuilder("image " + x.undo() + " ");
        for (int what = 0; what < 6; what++) {
            all.append(x.count(what)).append(' ').append(x.told(what)).append(' ');
        }
        for (int i = 0; i < x.count(0); i++) {
            all.append(x.of(i, 6)).append(' ').append(x.good(i, 0)).append(' ').append(x.can(i)).append(' ');
        }
        return all + taken(x);
    }

    private static String everything(NamesNoTouch x) {
        return seen(x) + traced(x) + taken(x) + undone(x);
    }

    private static void same(String what, String got, String want) {
        Due.due(what + ": " + got + " and not " + want, got.equals(want) ? 1 : 0, 1);
    }

    private static void refused(int state, String what, Call call, long want) {
        NamesNoTouch x = made(state);
        Due.due(what + " where " + state, call.on(x), want);
        same(what + " where " + state + " changed something", everything(x), everything(made(state)));
    }

    private static void asked(int state, String what, Call call) {
        NamesNoTouch x = made(state);
        long once = call.on(x);
        Due.due(what + " where " + state + ", again", call.on(x), once);
        same(what + " where " + state + " changed something", everything(x), everything(made(state)));
    }

    // ---- refused

    private static void refusedEverywhere(int state) {
        refused(state, "feed(-1)", x -> x.feed(-1), BAD);
        refused(state, "feed(128)", x -> x.feed(128), BAD);
        refused(state, "dot, kind -1", x -> x.dot(-1, 0, 1, 0, 0), NONE);
        refused(state, "dot, kind 7", x -> x.dot(7, 0, 1, 0, 0), NONE);
        refused(state, "dot, v -1", x -> x.dot(0, -1, 1, 0, 0), BAD);
        refused(state, "dot, v 10", x -> x.dot(0, 10, 1, 0, 0), BAD);
        refused(state, "dot, letters 0", x -> x.dot(0, 0, 0, 0, 0), BAD);
        refused(state, "dot, letters 10", x -> x.dot(0, 0, 10, 0, 0), BAD);
        refused(state, "dot, column -1", x -> x.dot(0, 0, 1, -1, 0), BAD);
        refused(state, "dot, column 30", x -> x.dot(0, 0, 1, 30, 0), BAD);
        refused(state, "dot, row -1", x -> x.dot(0, 0, 1, 0, -1), BAD);
        refused(state, "dot, row 12", x -> x.dot(0, 0, 1, 0, 12), BAD);
        refused(state, "row, name -1", x -> x.row(-1, 0, 0), NONE);
        refused(state, "row, name 7", x -> x.row(7, 0, 0), NONE);
        refused(state, "lay, name -1", x -> x.lay(-1, 0), NONE);
        refused(state, "lay, name 7", x -> x.lay(7, 0), NONE);
        refused(state, "lift, name -1", x -> x.lift(-1), NONE);
        refused(state, "lift, name 7", x -> x.lift(7), NONE);
        refused(state, "see, column -2", x -> x.see(-2, 0, true), NONE);
        refused(state, "see, column 30", x -> x.see(30, 0, true), NONE);
        refused(state, "see, row -1", x -> x.see(0, -1, true), NONE);
        refused(state, "see, row 12", x -> x.see(0, 12, true), NONE);
        refused(state, "plan, name -2", x -> x.plan(-2, 0), NONE);
        refused(state, "plan, name 7", x -> x.plan(7, 0), NONE);
        refused(state, "book, name -2", x -> x.book(-2, 0), NONE);
        refused(state, "book, name 7", x -> x.book(7, 0), NONE);
        refused(state, "clash, name 7", x -> x.clash(7, 0, 0, 0), NONE);
        refused(state, "all(0)", x -> x.all(0), BAD);
        refused(state, "all(16)", x -> x.all(16), BAD);
    }

    private static void refusedWhereEmpty() {
        refused(EMPTY, "row", x -> x.row(0, 0, 1), NONE);
        refused(EMPTY, "lay", x -> x.lay(0, 0), NONE);
        refused(EMPTY, "lift", x -> x.lift(0), NONE);
        refused(EMPTY, "plan", x -> x.plan(0, 0), NONE);
        refused(EMPTY, "book", x -> x.book(0, 0), NONE);
        refused(EMPTY, "undo", x -> x.undo(), STATE);
        refused(EMPTY, "of", x -> x.of(0, 0), NONE);
        refused(EMPTY, "odds", x -> x.odds(0, 0), NamesNoTouch.NO);
        refused(EMPTY, "mean", x -> x.mean(0), NamesNoTouch.NO);
    }

    private static void refusedWhereThereIsSome() {
        refused(SOME, "dot, where one is", x -> x.dot(0, 0, 1, 10, 5), BAD);
        refused(SOME, "dot, where the last is", x -> x.dot(0, 0, 1, 20, 9), BAD);
        refused(SOME, "row, k -1", x -> x.row(0, -1, 1), NONE);
        refused(SOME, "row, k 4", x -> x.row(0, 4, 1), NONE);
        refused(SOME, "row, n -1", x -> x.row(0, 0, -1), BAD);
        refused(SOME, "row, n 10", x -> x.row(0, 0, 10), BAD);
        refused(SOME, "row, another kind", x -> x.row(1, 0, 1), STATE);
        refused(SOME, "lay, place -1", x -> x.lay(0, -1), NONE);
        refused(SOME, "lay, place 4", x -> x.lay(0, 4), NONE);
        refused(SOME, "lay, where it may not", x -> x.lay(0, Made.RIGHT), STATE);
        refused(SOME, "lay, where it clashes", x -> x.lay(1, Made.BELOW), STATE);
        refused(SOME, "plan, place -1", x -> x.plan(0, -1), NONE);
        refused(SOME, "plan, place 5", x -> x.plan(0, 5), NONE);
        refused(SOME, "book, place -1", x -> x.book(0, -1), NONE);
        refused(SOME, "book, place 5", x -> x.book(0, 5), NONE);
        refused(SOME, "clash, one is both", x -> x.clash(0, 0, 0, 1), BAD);
        refused(SOME, "clash, place 4", x -> x.clash(0, 4, 1, 1), NONE);
        refused(SOME, "clash, where -1", x -> x.clash(0, 0, 1, -1), NONE);
        refused(SOME, "trace(-1)", x -> x.trace(-1), NONE);
        refused(SOME, "trace(20)", x -> x.trace(20), NONE);
        refused(SOME, "as, k 7", x -> x.as(0, 7), NONE);
        refused(SOME, "count(7)", x -> x.count(7), NONE);
        refused(SOME, "order(7)", x -> x.order(7), UNTOLD);
    }

    private static void refusedWhereFull() {
        refused(ALL_FULL, "feed", x -> x.feed('w'), FULL);
        refused(ALL_FULL, "map", x -> x.map(), FULL);
        refused(ALL_FULL, "dot", x -> x.dot(0, 0, 1, 0, 0), FULL);
        refused(ALL_FULL, "see", x -> x.see(0, 0, true), FULL);
        refused(ALL_FULL, "plan", x -> x.plan(0, 0), FULL);
        refused(ALL_FULL, "book", x -> x.book(0, 0), FULL);
    }

    private static void refusalsInTheirOrder() {
        refused(ALL_FULL, "dot, kind and v and full", x -> x.dot(7, 10, 0, 30, 12), NONE);
        refused(ALL_FULL, "dot, v and full", x -> x.dot(0, 10, 1, 0, 0), BAD);
        refused(ALL_FULL, "dot, one is there and full", x -> x.dot(0, 0, 1, 10, 5), BAD);
        refused(ALL_FULL, "feed, bad and full", x -> x.feed(200), BAD);
        refused(ALL_FULL, "row, k and n and kind", x -> x.row(1, 4, 10), NONE);
        refused(ALL_FULL, "row, n and kind", x -> x.row(1, 0, 10), BAD);
        refused(ALL_FULL, "lay, place and not free", x -> x.lay(6, 4), NONE);
        refused(ALL_FULL, "clash, none and one is both", x -> x.clash(9, 0, 9, 0), NONE);
        refused(ALL_FULL, "clash, no place and one is both", x -> x.clash(1, 0, 1, 4), NONE);
        refused(ALL_FULL, "see, row and full", x -> x.see(0, 12, true), NONE);
        refused(ALL_FULL, "plan, place and full", x -> x.plan(0, 5), NONE);
        refused(ALL_FULL, "book, name and full", x -> x.book(7, 0), NONE);
    }

    // ---- asked

    private static void askedChangesNothing(int state) {
        for (int n : new int[] {LEAST, -3, -2, -1, 0, 1, 2, 3, 6, 7, 10, 12, 15, 16, 17, GREATEST}) {
            asked(state, "told(" + n + ")", x -> x.told(n));
            asked(state, "most(" + n + ")", x -> x.most(n));
            asked(state, "best(" + n + ")", x -> x.best(n));
            asked(state, "all(" + n + ")", x -> x.all(n));
            asked(state, "moved(" + n + ")", x -> x.moved(n));
            asked(state, "inline(" + n + ")", x -> x.inline(n));
            asked(state, "order(" + n + ")", x -> x.order(n));
            asked(state, "far(" + n + ")", x -> x.far(n));
            asked(state, "can(" + n + ")", x -> x.can(n));
            asked(state, "done(" + n + ")", x -> x.done(n));
            asked(state, "mean(" + n + ")", x -> x.mean(n));
            asked(state, "trace(" + n + ")", x -> x.trace(n));
            asked(state, "count(" + n + ")", x -> x.count(n));
            asked(state, "of(0, " + n + ")", x -> x.of(0, n));
            asked(state, "of(" + n + ", 9)", x -> x.of(n, 9));
            asked(state, "good(1, " + n + ")", x -> x.good(1, n));
            asked(state, "clash(0, 0, 1, " + n + ")", x -> x.clash(0, 0, 1, n));
            asked(state, "at(10, " + n + ")", x -> x.at(10, n));
            asked(state, "firm(1, " + n + ")", x -> x.firm(1, n));
            asked(state, "odds(0, " + n + ")", x -> x.odds(0, n));
            asked(state, "as(1, " + n + ")", x -> x.as(1, n));
        }
        asked(state, "room()", x -> x.room());
        asked(state, "looked()", x -> x.looked());
    }

    private static void actsChangeTheTraceAlone() {
        for (int act = -1; act <= 3; act++) {
            for (int name = -1; name <= 7; name++) {
                NamesNoTouch x = made(SOME);
                NamesNoTouch y = made(SOME);
                x.act(name, act, 77);
                same("act(" + name + ", " + act + ") changed something", seen(x), seen(y));
                same("act(" + name + ", " + act + ") changed something", taken(x) + undone(x), taken(y) + undone(y));
            }
        }
        NamesNoTouch x = made(SOME);
        x.act(1, 1, 9);
        x.act(0, 2, 3);
        same("the latest act's trace", everything(x), everything(made(SOME)));
    }

    private static void anImageChangesNothingElse() {
        for (int state = EMPTY; state <= ALL_FULL; state++) {
            NamesNoTouch x = made(state);
            x.image();
            same("an image changed something", seen(x) + traced(x) + taken(x), seen(made(state))
                    + traced(made(state)) + taken(made(state)));
            NamesNoTouch y = made(state);
            y.image();
            y.undo();
            same("an image and back changed something", seen(y) + traced(y) + taken(y), seen(made(state))
                    + traced(made(state)) + taken(made(state)));
        }
    }

    private static void objectsAreNothingToOneAnother() {
        NamesNoTouch x = new NamesNoTouch();
        NamesNoTouch y = made(SOME);
        full(x);
        x.act(1, 2, 9);
        x.order(0);
        same("another object changed something", everything(y), everything(made(SOME)));
        same("another object changed something", everything(new NamesNoTouch()), everything(made(EMPTY)));
    }
}
