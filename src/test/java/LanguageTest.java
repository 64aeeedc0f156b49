import java.nio.charset.StandardCharsets;
import java.nio.file.Files;
import java.nio.file.Path;
import java.util.regex.Matcher;
import java.util.regex.Pattern;

/** The rules of the language that can be seen by the words of the source (run from the checkout's folder). */
public final class LanguageTest {
    private static final Check check = new Check();

    private static final String[] RULED_OUT = {
        "throw", "throws", "try", "catch", "finally", "synchronized", "assert", "import", "package", "native",
        "->", "::", "NaN", "Exact\\(", "equals", "hashCode", "toString", "System\\.(?!arraycopy)", "Object",
        "Thread", "Random", "instanceof", "double", "float", "protected"};

    public static void main(String[] args) throws Exception {
        String source = Files.readString(Path.of("src/main/java/SkippedDay.java"), StandardCharsets.US_ASCII);
        String code = source.replaceAll("(?s)/\\*.*?\\*/", "").replaceAll("//[^\n]*", "");
        for (String word : RULED_OUT) {
            boolean isWord = Character.isLetter(word.charAt(0)) && Character.isLetter(word.charAt(word.length() - 1));
            check.due("times of " + word, times(isWord ? "\\b" + word + "\\b" : word, code), 0);
        }
        check.due("public classes", times("public (final )?(class|enum|record|interface)", code), 1);
        check.due("at most twelve classes", times("\\bclass \\w+ \\{", code) <= 12 ? 1 : 0, 1);
        check.due("static fields that are not final", times("\\bstatic (?!final)[\\w\\[\\]]+ \\w+( =|;)", code), 0);
        check.due("methods of more than seven parameters", times("\\w\\((?:\\w+ \\w+, ){7}", code), 0);
        check.due("texts joined by +", times("\" \\+ |\\+ \"", code), 0);
        check.due("arrays of three dimensions", times("\\[\\]\\[\\]\\[\\]", code), 0);
        methodsAreShort(code);
        check.end("LanguageTest");
    }

    private static int times(String pattern, String code) {
        Matcher matcher = Pattern.compile(pattern).matcher(code);
        int count = 0;
        while (matcher.find()) {
            count++;
        }
        return count;
    }

    /** Some sixty lines: from a head that opens a body to the brace that stands as far in as the head. */
    private static void methodsAreShort(String code) {
        Matcher matcher = Pattern.compile("(?m)^( +)[\\w\\[\\] ]+\\([\\w\\[\\], ]*\\) \\{\\n(?s:.*?)\\n\\1\\}").matcher(code);
        while (matcher.find()) {
            String head = matcher.group().trim().split("\n")[0];
            check.due(head + " is short", matcher.group().split("\n").length <= 60 ? 1 : 0, 1);
        }
    }
}
