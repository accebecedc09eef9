import java.io.IOException;
import java.lang.reflect.Method;
import java.lang.reflect.Modifier;
import java.nio.file.DirectoryStream;
import java.nio.file.Files;
import java.nio.file.Path;
import java.util.regex.Matcher;
import java.util.regex.Pattern;

/** README.md tells of the class and of its tests as they stand. */
public final class ReadmeTest extends Check {
    private static final Pattern QUOTED = Pattern.compile("\"([^\"]*)\"");
    private static final Pattern ANSWERED = Pattern.compile("lazy\\.(\\w+)\\(([^)]*)\\);\\s*// (-?\\d+).*");

    public static void main(String[] args) throws IOException, ReflectiveOperationException {
        String readme = Files.readString(Path.of("README.md"));
        about = "README.md";
        exampleHolds(blockOf(readme, "java"));
        namesEachCall(readme);
        namesEachTest(readme);
        end();
    }

    private static String blockOf(String readme, String language) {
        String begin = "```" + language + "\n";
        int from = readme.indexOf(begin);
        return from < 0 ? "" : readme.substring(from + begin.length(), readme.indexOf("```", from + begin.length()));
    }

    private static void exampleHolds(String example) throws ReflectiveOperationException {
        StringBuilder text = new StringBuilder();
        Matcher quoted = QUOTED.matcher(example);
        while (quoted.find()) {
            text.append(quoted.group(1));
        }
        LazyStrict lazy = fed(text.toString());
        int answers = 0;
        for (String line : example.split("\n")) {
            Matcher answered = ANSWERED.matcher(line);
            if (answered.matches()) {
                answers++;
                due(line, answerOf(lazy, answered.group(1), answered.group(2)), Long.parseLong(answered.group(3)));
            }
        }
        due("whether the example has answers", answers > 5 ? 1 : 0, 1);
    }

    private static int answerOf(LazyStrict lazy, String name, String written) throws ReflectiveOperationException {
        String[] parts = written.isEmpty() ? new String[0] : written.split(", ");
        for (Method m : LazyStrict.class.getMethods()) {
            if (m.getName().equals(name) && m.getParameterCount() == parts.length) {
                Object[] values = new Object[parts.length];
                for (int i = 0; i < parts.length; i++) {
                    boolean isFlag = m.getParameterTypes()[i] == boolean.class;
                    values[i] = isFlag ? (Object) Boolean.valueOf(parts[i]) : (Object) Integer.valueOf(parts[i]);
                }
                return (Integer) m.invoke(lazy, values);
            }
        }
        throw new NoSuchMethodException(name);
    }

    private static void namesEachCall(String readme) {
        for (Method m : LazyStrict.class.getDeclaredMethods()) {
            if (Modifier.isPublic(m.getModifiers())) {
                due("whether it names " + m.getName(), readme.contains("`" + m.getName() + "(") ? 1 : 0, 1);
            }
        }
    }

    private static void namesEachTest(String readme) throws IOException {
        try (DirectoryStream<Path> tests = Files.newDirectoryStream(Path.of("src/test/java"))) {
            for (Path test : tests) {
                String name = test.getFileName().toString().replace(".java", "");
                due("whether it names " + name, readme.contains("`" + name + "`") ? 1 : 0, 1);
            }
        }
    }
}
