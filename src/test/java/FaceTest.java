import java.lang.reflect.Constructor;
import java.lang.reflect.Field;
import java.lang.reflect.Method;
import java.lang.reflect.Modifier;
import java.nio.file.Files;
import java.nio.file.Path;
import java.util.Set;
import java.util.TreeSet;
import java.util.regex.Matcher;
import java.util.regex.Pattern;

/** The document's face and no more, and what LANGUAGE.md rules out by a word. */
public final class FaceTest {
    private static final String FACE = "act(int,int,int)int all(int)int as(int,int)int at(int,int)int best(int)int "
            + "book(int,int)int can(int)int clash(int,int,int,int)int count(int)int done(int)int "
            + "dot(int,int,int,int,int)int far(int)int feed(int)int firm(int,int)int good(int,int)int image()int "
            + "inline(int)int lay(int,int)int lift(int)int looked()int map()int mean(int)long most(int)int "
            + "moved(int)int odds(int,int)long of(int,int)int order(int)int plan(int,int)int room()int "
            + "row(int,int,int)int see(int,int,boolean)int told(int)int trace(int)int undo()int";

    private FaceTest() {
    }

    public static void main(String[] args) throws Exception {
        Set<String> wanted = new TreeSet<>(Set.of(FACE.split(" ")));
        Set<String> names = new TreeSet<>();
        Set<String> found = new TreeSet<>();
        for (Method m : NamesNoTouch.class.getDeclaredMethods()) {
            if (Modifier.isPublic(m.getModifiers())) {
                StringBuilder types = new StringBuilder();
                for (Class<?> type : m.getParameterTypes()) {
                    types.append(types.length() > 0 ? "," : "").append(type.getName());
                }
                found.add(m.getName() + "(" + types + ")" + m.getReturnType().getName());
                names.add(m.getName());
            }
        }
        Due.due("the methods " + found, found.equals(wanted) ? 1 : 0, 1);
        Due.due("how many methods", found.size(), 34);
        hiddenRest(names);
        Due.due("constructors", NamesNoTouch.class.getConstructors().length, 1);
        Due.due("NONE", NamesNoTouch.NONE, -1);
        Due.due("BAD", NamesNoTouch.BAD, -2);
        Due.due("STATE", NamesNoTouch.STATE, -3);
        Due.due("FULL", NamesNoTouch.FULL, -4);
        Due.due("NO", NamesNoTouch.NO, Long.MIN_VALUE);
        sizes(NamesNoTouch.class);
        for (Class<?> c : NamesNoTouch.class.getDeclaredClasses()) {
            sizes(c);
        }
        language();
        Due.close();
    }

    private static void hiddenRest(Set<String> names) {
        for (Method m : NamesNoTouch.class.getDeclaredMethods()) {
            boolean is = Modifier.isPublic(m.getModifiers())
                    || Modifier.isPrivate(m.getModifiers()) && !names.contains(m.getName());
            Due.due("hidden method " + m.getName(), is ? 1 : 0, 1);
        }
        int constants = 0;
        for (Field f : NamesNoTouch.class.getDeclaredFields()) {
            constants += Modifier.isPublic(f.getModifiers()) ? 1 : 0;
            Due.due("field " + f.getName(), Modifier.isPublic(f.getModifiers())
                    || Modifier.isPrivate(f.getModifiers()) ? 1 : 0, 1);
        }
        Due.due("public constants", constants, 5);
        Class<?>[] inside = NamesNoTouch.class.getDeclaredClasses();
        Due.due("how many classes are inside", inside.length <= 12 ? 1 : 0, 1);
        for (Class<?> c : inside) {
            Due.due("static class " + c.getName(), Modifier.isStatic(c.getModifiers()) ? 1 : 0, 1);
            for (Method m : c.getDeclaredMethods()) {
                Due.due("no public method's name in " + c.getName() + ": " + m.getName(),
                        names.contains(m.getName()) ? 0 : 1, 1);
            }
        }
    }

    private static void sizes(Class<?> c) {
        int fields = 0;
        for (Field f : c.getDeclaredFields()) {
            boolean isConstant = Modifier.isStatic(f.getModifiers());
            fields += isConstant ? 0 : 1;
            Due.due("static and not final: " + f, !isConstant || Modifier.isFinal(f.getModifiers()) ? 1 : 0, 1);
        }
        Due.due("fields of " + c.getName(), fields <= 20 ? 1 : 0, 1);
        for (Method m : c.getDeclaredMethods()) {
            Due.due("parameters of " + m, m.getParameterCount() <= 7 ? 1 : 0, 1);
        }
        for (Constructor<?> made : c.getDeclaredConstructors()) {
            Due.due("parameters of " + made, made.getParameterCount() <= 7 ? 1 : 0, 1);
        }
    }

    private static void language() throws Exception {
        String text = Files.readString(Path.of("src/main/java/NamesNoTouch.java"));
        Matcher out = Pattern.compile("\\b(throw|throws|try|catch|finally|synchronized|assert|package|record|enum"
                + "|interface|native|volatile|System|Random|Thread)\\b|->|::|\"\\s*\\+|@").matcher(code(text));
        Due.due("a word that is ruled out", out.find() ? 1 : 0, 0);
        Matcher imports = Pattern.compile("(?m)^import (.*);$").matcher(text);
        while (imports.find()) {
            Due.due("import " + imports.group(1), imports.group(1).equals("java.util.ArrayList") ? 1 : 0, 1);
        }
        for (String line : text.split("\n")) {
            Due.due("as long as a line may be: " + line, line.length() <= 120 ? 1 : 0, 1);
        }
    }

    private static String code(String text) {
        return text.replaceAll("(?s)/\\*.*?\\*/", "").replaceAll("//[^\n]*", "");
    }
}
