import java.io.IOException;
import java.lang.reflect.Constructor;
import java.lang.reflect.Executable;
import java.lang.reflect.Field;
import java.lang.reflect.Method;
import java.lang.reflect.Modifier;
import java.nio.file.Files;
import java.nio.file.Path;
import java.util.Arrays;
import java.util.Set;
import java.util.TreeSet;

/** The public face is the document's, and the file keeps to what can be seen of the language's rules. */
public final class FaceTest {
    private static final String[] FACE = {
        "feed(int, long) throws IllegalArgumentException", "wipe()", "compile()", "place()", "functions()",
        "function(int, int) throws IndexOutOfBoundsException",
        "parameter(int, int, int) throws IndexOutOfBoundsException",
        "value(int, int) throws IndexOutOfBoundsException", "rounds()", "isStrict(int)",
        "argument(int) throws IllegalStateException",
        "run(int, int, boolean) throws IllegalArgumentException IndexOutOfBoundsException",
        "told(int) throws IndexOutOfBoundsException", "element(int) throws IndexOutOfBoundsException"};
    private static final String[] NOT_ALLOWED = {"catch", "import ", "Exact(", "finally", "synchronized", "assert ",
        "System.", "Random", "Thread", "protected", "static {", "::", ") ->", "getMessage", "instanceof",
        // Rule 4 lists functions of Integer and Long, but none of their constants.
        "_VALUE"};
    private static int wrong = 0;

    public static void main(String[] args) throws IOException {
        faceIsTheDocuments();
        nothingElseIsVisible();
        for (Class<?> inner : LazyStrict.class.getDeclaredClasses()) {
            innerClassFits(inner);
        }
        due("classes", LazyStrict.class.getDeclaredClasses().length < 13, true);
        sourceFits(Files.readString(Path.of("src/main/java/LazyStrict.java")));
        if (wrong > 0) {
            System.exit(1);
        }
    }

    private static void due(String what, Object got, Object want) {
        if (!got.equals(want)) {
            wrong++;
            System.out.println(what + " is " + got + ", due is " + want);
        }
    }

    private static String told(Executable e) {
        StringBuilder text = new StringBuilder(e.getName()).append('(');
        String comma = "";
        for (Class<?> type : e.getParameterTypes()) {
            text.append(comma).append(type.getSimpleName());
            comma = ", ";
        }
        text.append(')');
        String[] thrown = Arrays.stream(e.getExceptionTypes()).map(Class::getSimpleName).sorted().toArray(String[]::new);
        return thrown.length == 0 ? text.toString() : text + " throws " + String.join(" ", thrown);
    }

    private static void faceIsTheDocuments() {
        Set<String> got = new TreeSet<>();
        for (Method m : LazyStrict.class.getDeclaredMethods()) {
            if (Modifier.isPublic(m.getModifiers())) {
                got.add(told(m));
                due("the answer of " + m.getName(), m.getReturnType(), int.class);
                due("static " + m.getName(), Modifier.isStatic(m.getModifiers()), false);
            }
        }
        due("the face", got, new TreeSet<>(Arrays.asList(FACE)));
        Constructor<?>[] constructors = LazyStrict.class.getDeclaredConstructors();
        due("constructors", constructors.length, 1);
        due("the constructor", told(constructors[0]), "LazyStrict()");
        due("the constructor is public", Modifier.isPublic(constructors[0].getModifiers()), true);
        due("the class is public and final", LazyStrict.class.getModifiers(), Modifier.PUBLIC | Modifier.FINAL);
    }

    private static void nothingElseIsVisible() {
        for (Method m : LazyStrict.class.getDeclaredMethods()) {
            boolean fits = Modifier.isPublic(m.getModifiers()) || Modifier.isPrivate(m.getModifiers());
            due(m.getName() + " is public or private", fits || m.isSynthetic(), true);
        }
        for (Field f : LazyStrict.class.getDeclaredFields()) {
            boolean isNone = f.getName().equals("NONE");
            int visible = Modifier.PUBLIC | Modifier.PRIVATE;
            due("how " + f.getName() + " is seen", f.getModifiers() & visible, isNone ? Modifier.PUBLIC : Modifier.PRIVATE);
            fieldFits(f);
        }
    }

    private static void fieldFits(Field f) {
        if (Modifier.isStatic(f.getModifiers())) {
            boolean constant = f.getType() == int.class || f.getType() == long.class || f.getType() == String.class;
            due(f + " is a constant", Modifier.isFinal(f.getModifiers()) && constant, true);
        }
    }

    private static void innerClassFits(Class<?> inner) {
        due(inner + " is private, static, final", inner.getModifiers(),
            Modifier.PRIVATE | Modifier.STATIC | Modifier.FINAL);
        int fields = 0;
        for (Field f : inner.getDeclaredFields()) {
            fieldFits(f);
            fields += Modifier.isStatic(f.getModifiers()) ? 0 : 1;
        }
        due(inner + " has at most some twenty fields", fields <= 22, true);
        for (Method m : inner.getDeclaredMethods()) {
            due(m + " takes at most seven", m.getParameterCount() <= 7, true);
            for (String face : FACE) {
                due(m + " has a public name", face.startsWith(m.getName() + "("), false);
            }
        }
    }

    private static void sourceFits(String source) {
        for (String not : NOT_ALLOWED) {
            due("'" + not + "' stands in the source", source.contains(not), false);
        }
        String[] lines = source.split("\n");
        int began = 0;
        for (int i = 0; i < lines.length; i++) {
            due("line " + (i + 1) + " is at most 120 long", lines[i].length() <= 120, true);
            if (lines[i].endsWith("{") && (lines[i].startsWith("        ") && !lines[i].startsWith("         ")
                || lines[i].startsWith("    p"))) {
                began = i;
            }
            if (lines[i].equals("        }") && lines[began].startsWith("        ")) {
                due("the method at line " + (began + 1) + " is short", i - began <= 60, true);
            }
        }
    }
}
