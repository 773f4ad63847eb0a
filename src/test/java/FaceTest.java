import java.io.IOException;
import java.lang.reflect.Constructor;
import java.lang.reflect.Field;
import java.lang.reflect.Method;
import java.lang.reflect.Modifier;
import java.nio.file.Files;
import java.nio.file.Path;
import java.util.List;
import java.util.Set;
import java.util.TreeSet;
import java.util.regex.Matcher;
import java.util.regex.Pattern;

/** The public face as the document tells it, and those rules of LANGUAGE.md that can be looked at from outside. */
public final class FaceTest {
    private static final Checks C = new Checks("FaceTest");
    private static final Path SOURCE = Path.of("src", "main", "java", "TowThatJerks.java");
    private static final Path DOCUMENT = Path.of("..", "shared", "DOC.md");
    private static final Pattern CALL = Pattern.compile("    public (int|long) (\\w+)\\(([^)]*)\\)( throws [^;]*)?;");

    public static void main(String[] args) throws IOException {
        callsAsTold();
        nothingElseIsSeen();
        classesInside();
        words();
        lengths();
        C.end();
    }

    private static void due(String what, boolean so) {
        C.due(what, so ? 1 : 0, 1);
    }

    private static String signature(Method m) {
        StringBuilder s = new StringBuilder(m.getReturnType().getName()).append(' ').append(m.getName());
        for (Class<?> p : m.getParameterTypes()) {
            s.append(' ').append(p.getName());
        }
        for (Class<?> e : m.getExceptionTypes()) {
            s.append(" throws ").append(e.getSimpleName());
        }
        return s.toString();
    }

    private static Set<String> told() throws IOException {
        Set<String> told = new TreeSet<>();
        Matcher m = CALL.matcher(Files.readString(DOCUMENT));
        while (m.find()) {
            StringBuilder s = new StringBuilder(m.group(1)).append(' ').append(m.group(2));
            for (String p : m.group(3).isEmpty() ? new String[0] : m.group(3).split(", ")) {
                s.append(' ').append(p.split(" ")[0]);
            }
            for (String e : m.group(4) == null ? new String[0] : m.group(4).substring(8).split(", ")) {
                s.append(" throws ").append(e);
            }
            told.add(s.toString());
        }
        return told;
    }

    private static void callsAsTold() throws IOException {
        Set<String> seen = new TreeSet<>();
        for (Method m : TowThatJerks.class.getDeclaredMethods()) {
            if (Modifier.isPublic(m.getModifiers())) {
                seen.add(signature(m));
                due(m.getName() + " is no static method", !Modifier.isStatic(m.getModifiers()));
            }
        }
        C.due("calls told", told().size(), 40 - 1);
        due("the calls are those told: " + seen, seen.equals(told()));
        Constructor<?>[] made = TowThatJerks.class.getDeclaredConstructors();
        due("one public constructor", made.length == 1 && Modifier.isPublic(made[0].getModifiers())
                && made[0].getParameterCount() == 0);
        due("the class is final", Modifier.isFinal(TowThatJerks.class.getModifiers()));
    }

    private static void nothingElseIsSeen() {
        for (Field f : TowThatJerks.class.getDeclaredFields()) {
            due("field " + f.getName() + " is private", Modifier.isPrivate(f.getModifiers()));
        }
        Set<String> face = new TreeSet<>();
        for (Method m : TowThatJerks.class.getDeclaredMethods()) {
            if (Modifier.isPublic(m.getModifiers())) {
                face.add(m.getName());
            }
        }
        for (Method m : TowThatJerks.class.getDeclaredMethods()) {
            int how = m.getModifiers();
            due("method " + m.getName() + " is public or private", Modifier.isPublic(how) || Modifier.isPrivate(how));
            due("method " + m.getName() + " has no public one's name", Modifier.isPublic(how) || !face.contains(m.getName()));
        }
        for (Class<?> c : TowThatJerks.class.getDeclaredClasses()) {
            for (Method m : c.getDeclaredMethods()) {
                due("method " + m.getName() + " inside has no public one's name", !face.contains(m.getName()));
            }
        }
    }

    private static void classesInside() {
        Class<?>[] inside = TowThatJerks.class.getDeclaredClasses();
        due("twelve classes at most", inside.length + 1 <= 12);
        due("twenty fields at most", fieldsOf(TowThatJerks.class) <= 20);
        for (Class<?> c : inside) {
            due(c.getSimpleName() + " is static", Modifier.isStatic(c.getModifiers()));
            due(c.getSimpleName() + " has twenty fields at most", fieldsOf(c) <= 20);
            for (Field f : c.getDeclaredFields()) {
                dueFinalIfStatic(f);
            }
        }
        for (Field f : TowThatJerks.class.getDeclaredFields()) {
            dueFinalIfStatic(f);
        }
    }

    private static int fieldsOf(Class<?> c) {
        int fields = 0;
        for (Field f : c.getDeclaredFields()) {
            fields += Modifier.isStatic(f.getModifiers()) ? 0 : 1;
        }
        return fields;
    }

    private static void dueFinalIfStatic(Field f) {
        int how = f.getModifiers();
        due("static field " + f.getName() + " is final", !Modifier.isStatic(how) || Modifier.isFinal(how));
    }

    private static void words() throws IOException {
        String source = Files.readString(SOURCE);
        String[] forbidden = {"->", "::", "synchronized", "assert", "finally", "package ", "static {", "Object",
            "double", "float", "Exact(", "getMessage", "System.out", "Random", "Thread", "ArithmeticException",
            "IndexOutOfBounds", "NullPointer", "ClassCast", "NegativeArray", "ArrayStore", "RuntimeException",
            "Throwable", "catch (Exception"};
        for (String word : forbidden) {
            due("no '" + word + "' in the source", !source.contains(word));
        }
        for (int i = 0; i < source.length(); i++) {
            if (source.charAt(i) > 127) {
                due("a sign above 127 at " + i, false);
            }
        }
        Matcher m = Pattern.compile("(?m)^import (.*);$").matcher(source);
        while (m.find()) {
            due("import " + m.group(1), Set.of("java.util.Arrays").contains(m.group(1)));
        }
    }

    /** A method begins with a line that ends in ") {" at a member's depth, and ends with a brace at that depth. */
    private static void lengths() throws IOException {
        List<String> lines = Files.readAllLines(SOURCE);
        Pattern begin = Pattern.compile("( {4}| {8})(public|private) .*\\((.*)\\)( throws .*)? \\{");
        for (int i = 0; i < lines.size(); i++) {
            Matcher m = begin.matcher(lines.get(i));
            if (m.matches()) {
                int end = i;
                while (!lines.get(end).equals(m.group(1) + "}")) {
                    end++;
                }
                due("sixty lines at most from line " + (i + 1), end - i + 1 <= 60);
                due("seven parameters at most in line " + (i + 1), m.group(3).split(",").length <= 7);
            }
        }
    }
}
