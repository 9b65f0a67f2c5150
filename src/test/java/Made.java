/** What several tests need to make an object and to tell it things. */
final class Made {
    static final int NONE = -1, BAD = -2, STATE = -3, FULL = -4, NOWHERE = -5, UNTOLD = -10001;
    static final int RIGHT = 0, LEFT = 1, ABOVE = 2, BELOW = 3, OUT = 4;
    static final int NAME = 0, LARGE = 1, COASTAL = 2, SHY = 3, CITY = 4, HARBOUR = 5, TOLD = 6;
    static final int LEAST = Integer.MIN_VALUE, GREATEST = Integer.MAX_VALUE;

    private Made() {
    }

    static void feed(NamesNoTouch x, String text) {
        for (int i = 0; i < text.length(); i++) {
            x.feed(text.charAt(i));
        }
    }

    static int read(NamesNoTouch x, String text) {
        feed(x, text);
        return x.map();
    }

    /** One with this map and one dot. */
    static NamesNoTouch one(String map, int kind, int v, int letters, int column, int row) {
        NamesNoTouch x = new NamesNoTouch();
        if (!map.isEmpty()) {
            read(x, map);
        }
        x.dot(kind, v, letters, column, row);
        return x;
    }

    /** One with a dot told at a single place. */
    static NamesNoTouch told(String map, int place, int letters, int column, int row) {
        NamesNoTouch x = one(map, TOLD, 0, letters, column, row);
        x.row(0, place, 1);
        return x;
    }

    static String times(String text, int n) {
        return text.repeat(n);
    }
}
