import java.io.IOException;
import java.lang.reflect.Method;
import java.lang.reflect.Modifier;
import java.nio.file.Files;
import java.nio.file.Path;
import java.util.regex.Matcher;
import java.util.regex.Pattern;

/** What README.md tells of the class is so: its example's answers, its tables of calls and statements. */
public final class ReadmeTest {
    private static final Checks C = new Checks("ReadmeTest");
    private static final Path README = Path.of("README.md");
    private static final Pattern TEXT = Pattern.compile("String text = \"([^\"]*)\";");
    private static final Pattern ANSWERED = Pattern.compile("(?m)^x\\.(\\w+)\\(([^)]*)\\); +// = (-?\\d+):");
    private static final Pattern STATEMENT = Pattern.compile("(?m)^\\| `[psvdya]`.*\\| `([^`]*)` *\\|$");

    public static void main(String[] args) throws IOException, ReflectiveOperationException {
        String told = Files.readString(README);
        exampleAnswers(told);
        everyCallIsTold(told);
        statementsAreRead(told);
        C.end();
    }

    private static void exampleAnswers(String told) throws ReflectiveOperationException {
        Matcher text = TEXT.matcher(told);
        C.due("a text in the example", text.find() ? 1 : 0, 1);
        TowThatJerks x = new TowThatJerks();
        Checks.text(x, 0, text.group(1));
        Matcher line = ANSWERED.matcher(told);
        int answered = 0;
        while (line.find()) {
            C.due(line.group(), answer(x, line.group(1), line.group(2)), Long.parseLong(line.group(3)));
            answered++;
        }
        C.due("lines of the example with an answer", answered > 0 ? 1 : 0, 1);
    }

    private static long answer(TowThatJerks x, String name, String numbers) throws ReflectiveOperationException {
        String[] each = numbers.isEmpty() ? new String[0] : numbers.split(", ");
        Class<?>[] types = new Class<?>[each.length];
        Object[] values = new Object[each.length];
        for (int i = 0; i < each.length; i++) {
            types[i] = int.class;
            values[i] = Integer.valueOf(each[i]);
        }
        return ((Number) TowThatJerks.class.getMethod(name, types).invoke(x, values)).longValue();
    }

    private static void everyCallIsTold(String told) {
        for (Method m : TowThatJerks.class.getDeclaredMethods()) {
            if (Modifier.isPublic(m.getModifiers())) {
                C.due("README.md tells of " + m.getName(), told.contains("`" + m.getName() + "`") ? 1 : 0, 1);
            }
        }
    }

    private static void statementsAreRead(String told) {
        Matcher line = STATEMENT.matcher(told);
        int read = 0;
        while (line.find()) {
            C.due("tow of " + line.group(1), Checks.read(new TowThatJerks(), line.group(1)), 1);
            read++;
        }
        C.due("statements told", read, 6);
    }
}
