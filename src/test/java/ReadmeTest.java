import java.io.File;
import java.lang.reflect.Method;
import java.lang.reflect.Modifier;
import java.nio.file.Files;
import java.nio.file.Path;
import java.util.List;
import java.util.regex.Matcher;
import java.util.regex.Pattern;

/** README.md: the calls that it shows answer as it says, and it names every call and every test. */
public final class ReadmeTest {
    private static final Pattern MAKE = Pattern.compile("FirstLanding x = new FirstLanding\\(\\);");
    private static final Pattern WRITE = Pattern.compile("write\\(x, (\\d), \"([^\"]*)\"\\);");
    private static final Pattern CALL = Pattern.compile("x\\.(\\w+)\\(([-\\d, ]*)\\); +// (-?\\d+|[A-Z]+)\\b.*");
    private static final Due DUE = new Due();
    private static int shown = 0;

    public static void main(String[] args) throws Exception {
        List<String> lines = Files.readAllLines(Path.of("README.md"));
        shownCalls(lines);
        DUE.is("README.md shows calls", shown > 20 ? 1 : 0, 1);
        String page = String.join("\n", lines);
        namedCalls(page);
        namedTests(page);
        DUE.end("ReadmeTest");
    }

    private static void shownCalls(List<String> lines) throws Exception {
        FirstLanding x = null;
        for (String line : lines) {
            Matcher write = WRITE.matcher(line);
            Matcher call = CALL.matcher(line);
            if (MAKE.matcher(line).matches()) {
                x = new FirstLanding();
            } else if (write.matches()) {
                Due.write(x, Integer.parseInt(write.group(1)), write.group(2));
            } else if (call.matches()) {
                DUE.is("README.md: " + line, answer(x, call.group(1), call.group(2)), due(call.group(3)));
                shown++;
            } else {
                DUE.is("README.md has a call without an answer: " + line, line.startsWith("x.") ? 1 : 0, 0);
            }
        }
    }

    private static long answer(FirstLanding x, String name, String numbers) throws Exception {
        String[] words = numbers.isEmpty() ? new String[0] : numbers.split(", ");
        Class<?>[] types = new Class<?>[words.length];
        Object[] values = new Object[words.length];
        for (int i = 0; i < words.length; i++) {
            types[i] = int.class;
            values[i] = Integer.valueOf(words[i]);
        }
        Method method = FirstLanding.class.getMethod(name, types);
        return ((Number) method.invoke(x, values)).longValue();
    }

    private static long due(String word) throws Exception {
        boolean named = Character.isLetter(word.charAt(0));
        return named ? FirstLanding.class.getField(word).getInt(null) : Long.parseLong(word);
    }

    private static void namedCalls(String page) {
        for (Method method : FirstLanding.class.getDeclaredMethods()) {
            if (Modifier.isPublic(method.getModifiers())) {
                DUE.is("README.md names " + method.getName(), page.contains("`" + method.getName() + "`") ? 1 : 0, 1);
            }
        }
    }

    private static void namedTests(String page) {
        String[] files = new File("src/test/java").list((folder, file) -> file.endsWith("Test.java"));
        DUE.is("there are tests", files != null && files.length > 0 ? 1 : 0, 1);
        for (String file : files == null ? new String[0] : files) {
            String row = "\n| " + file.replace(".java", "") + " | ";
            DUE.is("README.md has a row for " + file, page.contains(row) ? 1 : 0, 1);
        }
        DUE.is("README.md says how to run all tests", page.contains("\n    .ci/run\n") ? 1 : 0, 1);
    }
}
