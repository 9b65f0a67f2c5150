import java.lang.reflect.InvocationTargetException;
import java.lang.reflect.Method;
import java.lang.reflect.Modifier;
import java.util.ArrayList;
import java.util.List;

/** Every call with numbers at, about and far beyond its edges, held against the slow model; and none ever throws. */
public final class EveryNumberTest {
    private static final int LEAST = Integer.MIN_VALUE, GREATEST = Integer.MAX_VALUE;
    private static final int[] MANY = {LEAST, LEAST + 9, LEAST + 10, -10001, -14, -6, -5, -4, -3, -2, -1, 0, 1, 2, 3,
        4, 5, 6, 7, 8, 9, 10, 11, 12, 13, 15, 16, 17, 18, 19, 20, 29, 30, 31, 32, 44, 63, 64, 99, 100, 127, 128, 255,
        256, 65536, GREATEST - 9, GREATEST};
    private static final int[] SOME = {LEAST, -2, -1, 0, 1, 2, 3, 4, 6, 7, 9, 10, 12, 29, 30, GREATEST};
    private static final int[] FEW = {LEAST, -1, 0, 3, 4, 6, 7, GREATEST};
    private static final int CALLS = 250;

    private NamesNoTouch fast = new NamesNoTouch();
    private SlowNames slow = new SlowNames();
    private int called = 0;
    private final int state;

    private EveryNumberTest(int state) {
        this.state = state;
        fresh();
    }

    public static void main(String[] args) throws Exception {
        for (int state = 0; state <= 2; state++) {
            EveryNumberTest test = new EveryNumberTest(state);
            for (Method m : NamesNoTouch.class.getDeclaredMethods()) {
                if (Modifier.isPublic(m.getModifiers())) {
                    test.all(m);
                }
            }
        }
        Due.close();
    }

    private void fresh() {
        fast = new NamesNoTouch();
        slow = new SlowNames();
        called = 0;
        if (state > 0) {
            some();
        }
        if (state > 1) {
            more();
        }
    }

    private void read(String text) {
        for (int i = 0; i < text.length(); i++) {
            fast.feed(text.charAt(i));
            slow.feed(text.charAt(i));
        }
    }

    private void dot(int kind, int v, int letters, int column, int row) {
        fast.dot(kind, v, letters, column, row);
        slow.dot(kind, v, letters, column, row);
    }

    private void some() {
        dot(6, 4, 5, 3, 3);
        dot(0, 9, 3, 1, 5);
        fast.row(0, 3, 2);
        slow.row(0, 3, 2);
        fast.lay(1, 2);
        slow.lay(1, 2);
        fast.see(1, 4, true);
        slow.see(1, 4, true);
        fast.act(0, 2, 5);
        slow.act(0, 2, 5);
        read("river 2;wide 11");
        fast.map();
        slow.map();
        read("love 1 n=0");
    }

    private void more() {
        fast.image();
        slow.image();
        dot(4, 2, 4, 6, 0);
        dot(5, 2, 2, 8, 11);
        dot(3, 6, 4, 9, 6);
        dot(1, 6, 4, 4, 8);
        dot(2, 6, 2, 7, 9);
        fast.map();
        slow.map();
        for (int i = 0; i < 7; i++) {
            fast.plan(i, i % 5);
            slow.plan(i, i % 5);
            fast.book(i, 4);
            slow.book(i, 4);
        }
    }

    private void all(Method m) throws Exception {
        Method model = SlowNames.class.getDeclaredMethod(m.getName(), m.getParameterTypes());
        fresh();
        switch (m.getParameterCount()) {
            case 5: threeAtATime(m, model); break;
            case 4: each(m, model, FEW, new Object[4], 0); break;
            case 3: each(m, model, SOME, new Object[3], 0); break;
            default: each(m, model, MANY, new Object[m.getParameterCount()], 0); break;
        }
    }

    private void each(Method m, Method model, int[] numbers, Object[] with, int i) throws Exception {
        if (i == with.length) {
            same(m, model, with);
            return;
        }
        if (m.getParameterTypes()[i] == boolean.class) {
            with[i] = false;
            each(m, model, numbers, with, i + 1);
            with[i] = true;
            each(m, model, numbers, with, i + 1);
            return;
        }
        for (int n : numbers) {
            with[i] = n;
            each(m, model, numbers, with, i + 1);
        }
    }

    /** Three of the five are at their edges, the others fine, as many as there are ways to choose three. */
    private void threeAtATime(Method m, Method model) throws Exception {
        int[] fine = {3, 5, 4, 11, 7};
        for (int mask = 0; mask < 32; mask++) {
            if (Integer.bitCount(mask) == 3) {
                Object[] with = new Object[5];
                for (int a : SOME) {
                    for (int b : SOME) {
                        for (int c : SOME) {
                            List<Integer> rest = new ArrayList<>(List.of(a, b, c));
                            for (int i = 0; i < 5; i++) {
                                with[i] = (mask >> i & 1) == 0 ? fine[i] : rest.remove(0);
                            }
                            same(m, model, with);
                        }
                    }
                }
            }
        }
    }

    private void same(Method m, Method model, Object[] with) throws Exception {
        if (called++ >= CALLS) {
            fresh();
        }
        StringBuilder call = new StringBuilder(m.getName());
        for (Object o : with) {
            call.append(' ').append(o);
        }
        long want = ((Number) model.invoke(slow, with)).longValue();
        try {
            Due.due(call + " in state " + state, ((Number) m.invoke(fast, with)).longValue(), want);
        } catch (InvocationTargetException e) {
            Due.due(call + " threw " + e.getCause(), 1, 0);
        }
    }
}
