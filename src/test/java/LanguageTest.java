import java.lang.reflect.Constructor;
import java.lang.reflect.Field;
import java.lang.reflect.Method;
import java.lang.reflect.Modifier;
import java.nio.file.Files;
import java.nio.file.Path;
import java.util.Arrays;
import java.util.List;
import java.util.Set;
import java.util.TreeSet;
import java.util.regex.Matcher;
import java.util.regex.Pattern;

/** The public face, and those rules of LANGUAGE.md that can be seen from the text or the class. */
public final class LanguageTest {
    private static final String SOURCE = "src/main/java/TearGuests.java";
    private static final List<String> FACE = List.of("row/3", "set/3", "copy/5", "drop/1", "feed/1", "wedding/0", "fault/0",
        "minutes/1", "hire/2", "swap/2", "hymns/1", "undo/0", "guest/2", "seat/1", "ahead/3", "bottle/2", "filled/0", "dry/1",
        "hiring/2", "order/2", "change/2", "fits/5", "away/3", "drawn/3", "image/1", "restore/1", "kind/1", "as/2", "ask/2",
        "trace/1", "count/1", "status/0");
    private static final String[] RULED_OUT = {"\\bthrow", "\\btry\\b", "\\bcatch\\b", "\\bsynchronized\\b", "\\bassert\\b",
        "\\bimport\\b", "\\bpackage\\b", "->", "::", "Exact\\b", "\\bdouble\\b", "\\bfloat\\b", "\\bprotected\\b",
        "\\.equals\\(", "hashCode", "toString", "\\bwhile \\(true\\)", "for \\(;;\\)", "\\bstatic \\{", "\"[^\"]*\" \\+"};
    private static final Due DUE = new Due();

    public static void main(String[] args) throws Exception {
        DUE.promise(1);
        face();
        fields();
        nested();
        text();
        DUE.end();
    }

    private static void face() {
        Class<?> c = TearGuests.class;
        DUE.holds("public and final", Modifier.isPublic(c.getModifiers()) && Modifier.isFinal(c.getModifiers()));
        Constructor<?>[] made = c.getDeclaredConstructors();
        DUE.holds("one public constructor, of nothing",
            made.length == 1 && Modifier.isPublic(made[0].getModifiers()) && made[0].getParameterCount() == 0);
        Set<String> open = new TreeSet<>();
        for (Method m : c.getDeclaredMethods()) {
            boolean isPublic = Modifier.isPublic(m.getModifiers());
            DUE.holds(m + " is public or private", isPublic || Modifier.isPrivate(m.getModifiers()));
            if (isPublic) {
                open.add(m.getName() + "/" + m.getParameterCount());
                DUE.holds(m + " answers an int to ints", m.getReturnType() == int.class
                    && Arrays.stream(m.getParameterTypes()).allMatch(p -> p == int.class) && !Modifier.isStatic(m.getModifiers()));
            }
        }
        DUE.holds("the methods of the document and no other: " + open, open.equals(new TreeSet<>(FACE)));
    }

    private static void fields() {
        Set<String> open = new TreeSet<>();
        for (Field f : TearGuests.class.getDeclaredFields()) {
            if (Modifier.isPublic(f.getModifiers())) {
                open.add(f.getName());
            } else {
                DUE.holds(f + " is private", Modifier.isPrivate(f.getModifiers()));
            }
            DUE.holds(f + " is final, if static", !Modifier.isStatic(f.getModifiers()) || Modifier.isFinal(f.getModifiers()));
        }
        DUE.holds("the constants of the document: " + open, open.equals(Set.of("NONE", "BAD", "STATE", "FULL")));
    }

    private static void nested() {
        Class<?>[] inside = TearGuests.class.getDeclaredClasses();
        DUE.holds("some twelve classes", inside.length <= 11);
        for (Class<?> c : inside) {
            DUE.holds(c + " is static", Modifier.isStatic(c.getModifiers()));
            long fields = Arrays.stream(c.getDeclaredFields()).filter(f -> !Modifier.isStatic(f.getModifiers())).count();
            DUE.holds(c + " has some twenty fields", fields <= 20);
            for (Method m : c.getDeclaredMethods()) {
                DUE.holds(m + " does not bear a name of the face", FACE.stream().noneMatch(f -> f.startsWith(m.getName() + "/")));
                DUE.holds(m + " takes seven at most", m.getParameterCount() <= 7);
            }
        }
        for (Method m : TearGuests.class.getDeclaredMethods()) {
            DUE.holds(m + " does not bear a name of the face", Modifier.isPublic(m.getModifiers())
                || FACE.stream().noneMatch(f -> f.startsWith(m.getName() + "/")));
        }
    }

    private static void text() throws Exception {
        String code = Files.readString(Path.of(SOURCE)).replaceAll("(?s)/\\*.*?\\*/", "").replaceAll("//[^\n]*", "");
        for (String ruledOut : RULED_OUT) {
            Matcher m = Pattern.compile(ruledOut).matcher(code);
            DUE.holds("nothing like " + ruledOut, !m.find());
        }
        // Objects are made in fields and constructors alone, so that no call takes room.
        for (String line : code.split("\n")) {
            DUE.holds("made once: " + line.trim(),
                !line.contains("new ") || line.contains("final ") || line.matches("\\s+(rows|images|before)\\[[rki]\\] = new .*"));
        }
    }
}
