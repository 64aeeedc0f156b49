import java.io.IOException;
import java.lang.reflect.Method;
import java.lang.reflect.Modifier;
import java.nio.charset.StandardCharsets;
import java.nio.file.Files;
import java.nio.file.Path;
import java.util.HashSet;
import java.util.List;
import java.util.Set;
import java.util.TreeSet;
import java.util.regex.Matcher;
import java.util.regex.Pattern;
import java.util.stream.Collectors;
import java.util.stream.Stream;

/** What README.md shows is what the class answers (run from the checkout's folder). */
public final class ReadmeTest {
    private static final Check check = new Check();

    private static final Pattern TEXT = Pattern.compile("\"(.*)\"\\.toCharArray\\(\\)");
    private static final Pattern SHOWN = Pattern.compile("x\\.(\\w+)\\((.*)\\); +// (-?\\d+|[A-Z]+): .*");
    /** What stands in the example beside calls and their answers. */
    private static final Set<String> OTHER_LINES =
        Set.of("SkippedDay x = new SkippedDay();", "    x.write(letter);", "}", "");

    public static void main(String[] args) throws Exception {
        String page = Files.readString(Path.of("README.md"), StandardCharsets.US_ASCII);
        example(page);
        constants(page);
        callsAreNamed(page);
        testsAreNamed(page);
        check.end("ReadmeTest");
    }

    /** Every line of the example is made on one object, in the order of the page. */
    private static void example(String page) throws Exception {
        Matcher block = Pattern.compile("(?s)```java\n(.*?)```").matcher(page);
        check.due("an example", block.find() ? 1 : 0, 1);
        SkippedDay x = new SkippedDay();
        for (String line : block.group(1).split("\n")) {
            Matcher text = TEXT.matcher(line);
            Matcher shown = SHOWN.matcher(line);
            if (text.find()) {
                Check.write(x, text.group(1));
            } else if (shown.matches()) {
                check.due(line, answer(x, shown.group(1), shown.group(2)), number(shown.group(3)));
            } else {
                check.due("not understood: " + line, OTHER_LINES.contains(line) ? 1 : 0, 1);
            }
        }
    }

    private static long answer(SkippedDay x, String name, String told) throws Exception {
        String[] words = told.isEmpty() ? new String[0] : told.split(", ");
        Method method = List.of(SkippedDay.class.getMethods()).stream()
            .filter(one -> one.getName().equals(name)).findFirst().orElseThrow();
        Object[] arguments = new Object[words.length];
        for (int i = 0; i < words.length; i++) {
            arguments[i] = argument(method.getParameterTypes()[i], words[i]);
        }
        return ((Number) method.invoke(x, arguments)).longValue();
    }

    private static Object argument(Class<?> type, String word) {
        if (type == boolean.class) {
            return word.equals("true");
        }
        if (type == long.class) {
            return Long.valueOf(word);
        }
        return Integer.valueOf(word);
    }

    private static long number(String word) throws Exception {
        return Character.isLetter(word.charAt(0)) ? SkippedDay.class.getField(word).getInt(null) : Long.parseLong(word);
    }

    /** Each constant is told with its number. */
    private static void constants(String page) {
        check.due("UNKNOWN", page.contains("`UNKNOWN` (" + SkippedDay.UNKNOWN + ")") ? 1 : 0, 1);
        check.due("BAD", page.contains("`BAD` (" + SkippedDay.BAD + ")") ? 1 : 0, 1);
        check.due("LATE", page.contains("`LATE` (" + SkippedDay.LATE + ")") ? 1 : 0, 1);
        check.due("FULL", page.contains("`FULL` (" + SkippedDay.FULL + ")") ? 1 : 0, 1);
        check.due("NONE", page.contains("`NONE` (" + SkippedDay.NONE + ")") ? 1 : 0, 1);
    }

    private static void callsAreNamed(String page) {
        Set<String> named = named(page, "`(\\w+)`");
        for (Method method : SkippedDay.class.getDeclaredMethods()) {
            if (Modifier.isPublic(method.getModifiers())) {
                check.due("README.md names " + method.getName(), named.contains(method.getName()) ? 1 : 0, 1);
            }
        }
    }

    /** Each test that .ci/run runs is named, and none that there is not. */
    private static void testsAreNamed(String page) throws IOException {
        try (Stream<Path> files = Files.list(Path.of("src/test/java"))) {
            Set<String> tests = files.map(file -> file.getFileName().toString())
                .filter(name -> name.endsWith("Test.java"))
                .map(name -> name.substring(0, name.length() - ".java".length()))
                .collect(Collectors.toCollection(TreeSet::new));
            check.same("the tests", new TreeSet<>(named(page, "`(\\w+Test)`")).toString(), tests.toString());
        }
    }

    private static Set<String> named(String page, String pattern) {
        Set<String> names = new HashSet<>();
        Matcher matcher = Pattern.compile(pattern).matcher(page);
        while (matcher.find()) {
            names.add(matcher.group(1));
        }
        return names;
    }
}
