import java.io.IOException;
import java.lang.reflect.Method;
import java.lang.reflect.Modifier;
import java.nio.file.DirectoryStream;
import java.nio.file.Files;
import java.nio.file.Path;
import java.util.List;
import java.util.Map;
import java.util.Set;
import java.util.TreeMap;
import java.util.TreeSet;
import java.util.regex.Matcher;
import java.util.regex.Pattern;

/** What README.md says is so: its rows answer as told, and it names every call and every file of tests. */
public final class ReadmeTest {
    private static final Path README = Path.of("README.md");
    private static final Path TESTS = Path.of("src/test/java");
    private static final String MAKING = "VillageOven oven = new VillageOven();";
    private static final Pattern ROW = Pattern.compile("oven\\.(\\w+)\\(([^)]*)\\); +// (-?\\w+): .+");
    private static final Map<String, Long> WORDS = Map.of("NONE", -1L, "BAD", -2L, "NOT", -3L, "FULL", -4L);

    public static void main(String[] args) throws IOException, ReflectiveOperationException {
        List<String> lines = Files.readAllLines(README);
        Set<String> shown = runRows(lines);
        Set<String> face = new TreeSet<>(methods().keySet());
        face.removeAll(shown);
        Check.holds("every call is shown, but these are not: " + face, face.isEmpty());
        lookAtFiles(String.join("\n", lines));
        Check.finish();
    }

    /** Answers the names of the calls that the rows show. */
    private static Set<String> runRows(List<String> lines) throws ReflectiveOperationException {
        Map<String, Method> methods = methods();
        Set<String> shown = new TreeSet<>();
        VillageOven oven = null;
        boolean code = false;
        for (String line : lines) {
            if (line.startsWith("```")) {
                code = line.equals("```java");
            } else if (code && line.equals(MAKING)) {
                oven = new VillageOven();
            } else if (code) {
                Matcher row = ROW.matcher(line);
                boolean told = row.matches() && oven != null && methods.containsKey(row.group(1));
                Check.holds("a row of code can be run: " + line, told);
                if (told) {
                    Check.due("README: " + line, answer(oven, methods.get(row.group(1)), row.group(2)), due(row.group(3)));
                    shown.add(row.group(1));
                }
            }
        }
        return shown;
    }

    private static long answer(VillageOven oven, Method method, String told) throws ReflectiveOperationException {
        String[] words = told.isEmpty() ? new String[0] : told.split(", ");
        Object[] values = new Object[words.length];
        for (int i = 0; i < words.length; i++) {
            boolean flag = method.getParameterTypes()[i] == boolean.class;
            values[i] = flag ? (Object) Boolean.valueOf(words[i]) : (Object) Integer.valueOf(words[i]);
        }
        return ((Number) method.invoke(oven, values)).longValue();
    }

    private static long due(String word) {
        return WORDS.containsKey(word) ? WORDS.get(word) : Long.parseLong(word);
    }

    private static Map<String, Method> methods() {
        Map<String, Method> all = new TreeMap<>();
        for (Method method : VillageOven.class.getDeclaredMethods()) {
            if (Modifier.isPublic(method.getModifiers())) {
                all.put(method.getName(), method);
            }
        }
        return all;
    }

    private static void lookAtFiles(String text) throws IOException {
        try (DirectoryStream<Path> files = Files.newDirectoryStream(TESTS)) {
            for (Path file : files) {
                String name = file.getFileName().toString().replace(".java", "");
                Check.holds("README names " + name, text.contains("`" + name + "`"));
            }
        }
        Matcher named = Pattern.compile("`(\\w+Test)`").matcher(text);
        while (named.find()) {
            Check.holds("there is a " + named.group(1), Files.exists(TESTS.resolve(named.group(1) + ".java")));
        }
    }
}
