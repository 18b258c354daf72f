import java.io.IOException;
import java.lang.reflect.Constructor;
import java.lang.reflect.Field;
import java.lang.reflect.Method;
import java.lang.reflect.Modifier;
import java.nio.file.Files;
import java.nio.file.Path;
import java.util.Arrays;
import java.util.Set;
import java.util.TreeSet;
import java.util.regex.Pattern;

/** The face of the class is the document's, and its source keeps to ../shared/LANGUAGE.md where that can be read off it. */
final class FaceTest {
    private static final Due due = new Due("FaceTest");
    private static final String FACE = "write(int,long) wipe() fault() lay() place(int,int) skin(int,int) where(int,int) "
            + "size(int,int) woman(int,int) fits(int,int) gone(int) best(int,int) hide(int,int) look(int,int,int) undo() "
            + "seen(int,int,int,boolean) forget() starts(int) laws(int) sure(int,int) lots(int,int,int) year(int,int) "
            + "keep() back() count(int)";
    private static final String[] NOT_IN_SOURCE = {"\\bthrows?\\b", "\\btry\\b", "\\bcatch\\b", "\\bsynchronized\\b",
        "\\bassert\\b", "->", "::", "\\bpackage\\b", "\\bvar\\b", "\\bObject\\b", "\\bequals\\s*\\(", "\\bhashCode\\b",
        "\\btoString\\b", "\\bMath\\.\\w+Exact\\b", "\\bSystem\\.(?!arraycopy)", "\\bThread\\b", "\\bRandom\\b",
        "\\bwhile\\s*\\(\\s*true", "for\\s*\\(\\s*;\\s*;", "@\\w+", "[^\\x00-\\x7e]"};

    public static void main(String[] args) throws IOException {
        constants();
        methods();
        members();
        nested();
        source();
        due.end();
    }

    private static void constants() {
        due.is("BAD", SkinInRafters.BAD, -1);
        due.is("NO", SkinInRafters.NO, -2);
        due.is("FULL", SkinInRafters.FULL, -3);
        due.is("NONE", SkinInRafters.NONE, -4);
    }

    private static void methods() {
        Set<String> want = new TreeSet<>(Arrays.asList(FACE.split(" ")));
        Set<String> got = new TreeSet<>();
        for (Method m : SkinInRafters.class.getDeclaredMethods()) {
            if (Modifier.isPublic(m.getModifiers())) {
                due.is(m + " answers an int", m.getReturnType() == int.class ? 1 : 0, 1);
                due.is(m + " is not static", Modifier.isStatic(m.getModifiers()) ? 1 : 0, 0);
                StringBuilder text = new StringBuilder(m.getName()).append('(');
                for (int k = 0; k < m.getParameterCount(); k++) {
                    text.append(k > 0 ? "," : "").append(m.getParameterTypes()[k]);
                }
                got.add(text.append(')').toString());
            }
        }
        due.is("the face is " + got + ", wanted is " + want, got.equals(want) ? 1 : 0, 1);
    }

    private static void members() {
        Class<?> c = SkinInRafters.class;
        due.is("public and final", c.getModifiers() & (Modifier.PUBLIC | Modifier.FINAL), Modifier.PUBLIC | Modifier.FINAL);
        due.is("constructors", c.getDeclaredConstructors().length, 1);
        for (Constructor<?> made : c.getConstructors()) {
            due.is("parameters of the constructor", made.getParameterCount(), 0);
        }
        Set<String> names = new TreeSet<>();
        for (Method m : c.getDeclaredMethods()) {
            due.is(m + " is public or private", Modifier.isPublic(m.getModifiers()) || Modifier.isPrivate(m.getModifiers()) ? 1 : 0, 1);
            due.is(m + " has a name of its own", names.add(m.getName()) ? 1 : 0, 1);
        }
        int own = 0;
        for (Field f : c.getDeclaredFields()) {
            boolean constant = Modifier.isStatic(f.getModifiers()) && Modifier.isFinal(f.getModifiers());
            due.is(f + " is public", Modifier.isPublic(f.getModifiers()) ? 1 : 0,
                    Set.of("BAD", "NO", "FULL", "NONE").contains(f.getName()) ? 1 : 0);
            due.is(f + " is private or public", Modifier.isPublic(f.getModifiers()) || Modifier.isPrivate(f.getModifiers()) ? 1 : 0, 1);
            due.is(f + " is static", Modifier.isStatic(f.getModifiers()) ? 1 : 0, constant ? 1 : 0);
            own += constant ? 0 : 1;
        }
        due.is("some twenty fields", own <= 20 ? 1 : 0, 1);
    }

    private static void nested() {
        Class<?>[] inside = SkinInRafters.class.getDeclaredClasses();
        due.is("some twelve classes", inside.length <= 11 ? 1 : 0, 1);
        for (Class<?> c : inside) {
            due.is(c + " is static", Modifier.isStatic(c.getModifiers()) ? 1 : 0, 1);
            due.is(c + " is not public", Modifier.isPublic(c.getModifiers()) ? 1 : 0, 0);
            for (Method m : c.getDeclaredMethods()) {
                due.is(m + " has no name of the face", (" " + FACE).contains(" " + m.getName() + "(") ? 1 : 0, 0);
                due.is(m + " takes seven at most", m.getParameterCount() <= 7 ? 1 : 0, 1);
            }
        }
    }

    private static void source() throws IOException {
        String source = Files.readString(Path.of("src/main/java/SkinInRafters.java"));
        String code = source.replaceAll("(?s)/\\*.*?\\*/", " ").replaceAll("//[^\n]*", " ");
        for (String not : NOT_IN_SOURCE) {
            due.is("in the source: " + not, Pattern.compile(not).matcher(code).find() ? 1 : 0, 0);
        }
        String imports = String.join(" ", code.lines().filter(l -> l.startsWith("import")).toList());
        due.is("imports: " + imports, imports.equals("import java.util.Arrays;") ? 1 : 0, 1);
        for (String line : code.split("\n")) {
            // Rows are made with the object that holds them: a call that made some would fill the room.
            boolean held = line.matches(" {4,8}(private )?(final )?\\w+(\\[\\])* \\w+ = [^()]*new .*;");
            due.is("made by no call: " + line.trim(), !line.matches(".*\\bnew\\b.*") || held ? 1 : 0, 1);
        }
        due.is("the methods stay short", longest(code) <= 60 ? 1 : 0, 1);
    }

    /** The most lines between the braces of one method (all of them stand at four or eight blanks). */
    private static int longest(String code) {
        int longest = 0;
        int lines = 0;
        for (String line : code.split("\n")) {
            boolean opens = line.matches("( {4}| {8})\\w[^;=]*\\) \\{");
            lines = opens ? 0 : lines + 1;
            boolean closes = line.matches("( {4}| {8})\\}");
            longest = closes ? Math.max(longest, lines) : longest;
            lines = closes ? 0 : lines;
        }
        return longest;
    }
}
