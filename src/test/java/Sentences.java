import java.io.IOException;
import java.nio.file.Files;
import java.nio.file.Path;
import java.util.Set;
import java.util.TreeSet;
import java.util.regex.Matcher;
import java.util.regex.Pattern;

/**
 * Checks that stand under the sentence whose edge they look at. Words that the document doesn't have, a sentence
 * without a check, and a refusal told at a call that no check waits for are wrong, too.
 */
final class Sentences {
    private static final Pattern PROMISE = Pattern.compile("## Promise (\\d+): ([^#]*)");
    private static final Pattern CALL = Pattern.compile("`(?:int|long) (\\w+)\\(");
    private static final Pattern REFUSAL = Pattern.compile("(?<![\\w.])-\\d+|Illegal\\w+Exception");

    private final Checks checks;
    private final String document;
    private final Set<String> waitedFor = new TreeSet<>();
    private final Set<String> unreachable = new TreeSet<>();
    private String words = "";
    private int checkedOfThese = 1;

    Sentences(String name) throws IOException {
        checks = new Checks(name);
        document = oneBlank(Files.readString(Path.of("..", "shared", "DOC.md")));
    }

    private static String oneBlank(String text) {
        return text.replaceAll("\\s+", " ");
    }

    /** The checks that follow are of these words. */
    void says(String ofDocument) {
        endWords();
        words = ofDocument;
        checkedOfThese = 0;
        checks.due("the document says '" + words + "'", document.contains(oneBlank(words)) ? 1 : 0, 1);
    }

    private void endWords() {
        checks.due("there is a check of '" + words + "'", checkedOfThese > 0 ? 1 : 0, 1);
    }

    void due(String call, long got, long want) {
        checkedOfThese++;
        waitedFor.add(nameOf(call) + " " + want);
        checks.due("'" + words + "': " + call, got, want);
    }

    private static String nameOf(String call) {
        int end = call.indexOf('(');
        return end < 0 ? call : call.substring(0, end);
    }

    void dueAll(String what, long[] got, long... want) {
        checkedOfThese++;
        checks.dueAll("'" + words + "': " + what, got, want);
    }

    /** A new object reads a text; it is given back for more checks. */
    TowThatJerks dueTow(String text, int want) {
        TowThatJerks x = new TowThatJerks();
        due("tow('" + text + "')", Checks.read(x, text), want);
        return x;
    }

    void dueArgument(TowThatJerks x, int d, int i) {
        dueThrown(x, d, i, 1, "IllegalArgumentException");
    }

    void dueState(TowThatJerks x, int d, int i) {
        dueThrown(x, d, i, 2, "IllegalStateException");
    }

    private void dueThrown(TowThatJerks x, int d, int i, int which, String name) {
        checkedOfThese++;
        waitedFor.add("element " + name);
        checks.dueThrown(x, d, i, which);
    }

    /** A refusal that is told at a call, but that no run of calls can come to. */
    void cannotBeReached(String name, int refusal) {
        unreachable.add(name + " " + refusal);
    }

    private void dueRefusalsTold() {
        int promises = 0;
        Matcher promise = PROMISE.matcher(document);
        while (promise.find()) {
            promises++;
            Matcher call = CALL.matcher(promise.group(2));
            if (call.find()) {
                dueRefusalsOf(call.group(1), promise.group(2));
            }
        }
        checks.due("promises", promises, 40);
    }

    private void dueRefusalsOf(String name, String told) {
        Matcher refusal = REFUSAL.matcher(told);
        while (refusal.find()) {
            String one = name + " " + refusal.group();
            boolean seen = waitedFor.contains(one) || unreachable.contains(one);
            checks.due("a check waits for " + one, seen ? 1 : 0, 1);
        }
        boolean any = false;
        for (String one : waitedFor) {
            any |= one.startsWith(name + " ");
        }
        checks.due("a check is of " + name, any ? 1 : 0, 1);
    }

    void end() {
        endWords();
        dueRefusalsTold();
        checks.end();
    }
}
