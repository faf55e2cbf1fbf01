import java.lang.reflect.Method;
import java.lang.reflect.Modifier;
import java.nio.file.Files;
import java.nio.file.Path;
import java.util.regex.Matcher;
import java.util.regex.Pattern;

/** README.md: its example answers what is written beside each call, and every call of the face is told. */
public final class ReadmeTest {
    private static final Pattern TEXT = Pattern.compile("for \\(char letter : \"([^\"]*)\"");
    private static final Pattern CALL = Pattern.compile("x\\.(\\w+)\\(([-0-9, ]*)\\);\\s*// (-?\\d+):");
    private static final Due DUE = new Due();

    public static void main(String[] args) throws Exception {
        String readme = Files.readString(Path.of("README.md"));
        example(readme);
        callsTold(readme);
        DUE.end();
    }

    private static void example(String readme) throws Exception {
        DUE.sentence(7, "how many GUESTS there are");
        Matcher text = TEXT.matcher(readme);
        boolean begun = text.find();
        DUE.holds("the example feeds a text", begun);
        TearGuests x = new TearGuests();
        for (char letter : begun ? text.group(1).toCharArray() : new char[0]) {
            x.feed(letter);
        }
        int calls = 0;
        for (Matcher call = CALL.matcher(readme); call.find(); calls++) {
            DUE.is(call.group(), answer(x, call.group(1), call.group(2)), Integer.parseInt(call.group(3)));
        }
        DUE.is("calls of the example", calls, 12);
    }

    private static int answer(TearGuests x, String name, String written) throws Exception {
        String[] parts = written.isEmpty() ? new String[0] : written.split(", *");
        Object[] numbers = new Object[parts.length];
        Class<?>[] types = new Class<?>[parts.length];
        for (int i = 0; i < parts.length; i++) {
            numbers[i] = Integer.parseInt(parts[i]);
            types[i] = int.class;
        }
        return (int) TearGuests.class.getMethod(name, types).invoke(x, numbers);
    }

    private static void callsTold(String readme) {
        DUE.promise(1);
        for (Method m : TearGuests.class.getDeclaredMethods()) {
            if (Modifier.isPublic(m.getModifiers())) {
                Matcher told = Pattern.compile("\\| .*`" + m.getName() + "\\(([a-z, ]*)\\)`").matcher(readme);
                boolean found = told.find();
                DUE.holds(m.getName() + " is told", found);
                String takes = found ? told.group(1) : "";
                DUE.is("how many numbers " + m.getName() + " takes, as told",
                    takes.isEmpty() ? 0 : takes.split(",").length, m.getParameterCount());
            }
        }
    }
}
