import java.lang.reflect.Method;
import java.lang.reflect.Modifier;
import java.nio.file.Files;
import java.nio.file.Path;
import java.util.List;
import java.util.regex.Matcher;
import java.util.regex.Pattern;

/** What README.md tells of the class holds: its example, call by call, and the names of all calls. */
public final class ReadmeTest {
    private static final int CITY = 0, SHY = 1;

    private ReadmeTest() {
    }

    public static void main(String[] args) throws Exception {
        String text = Files.readString(Path.of("README.md"));
        example(told(text));
        for (Method m : NamesNoTouch.class.getDeclaredMethods()) {
            if (Modifier.isPublic(m.getModifiers())) {
                Due.due("README.md names " + m.getName(), text.contains("`" + m.getName() + "`") ? 1 : 0, 1);
            }
        }
        Due.close();
    }

    /** The answers behind the calls of the example, in their order. */
    private static List<Integer> told(String text) {
        Matcher answer = Pattern.compile("(?m)^.*\\);\\s+// (-?\\d+)").matcher(text);
        return answer.results().map(found -> Integer.valueOf(found.group(1))).toList();
    }

    private static void example(List<Integer> told) {
        NamesNoTouch x = new NamesNoTouch();
        int[] got = new int[13];
        got[0] = x.dot(4, 0, 6, 3, 5);
        got[1] = x.dot(3, 9, 7, 9, 4);
        got[2] = x.of(CITY, 5);
        got[3] = x.lay(CITY, 0);
        got[4] = x.lay(SHY, 3);
        got[5] = x.lay(SHY, 2);
        got[6] = Made.read(x, "wide 20;river 6;love 5 k=3&p=2");
        got[7] = x.told(3);
        got[8] = x.lift(SHY);
        got[9] = x.moved(SHY);
        got[10] = x.most(0);
        got[11] = x.most(10 + CITY);
        got[12] = x.best(0);
        Due.due("how many answers README.md tells", told.size(), got.length);
        for (int i = 0; i < got.length && i < told.size(); i++) {
            Due.due("the example's answer " + i, got[i], told.get(i));
        }
    }
}
