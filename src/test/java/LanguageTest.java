import java.io.IOException;
import java.nio.file.Files;
import java.nio.file.Path;
import java.util.regex.Matcher;
import java.util.regex.Pattern;

/** The rules of ../shared/LANGUAGE.md that can be seen by a look at the words of the source. */
public final class LanguageTest {
    // 'case 1 ->' is a switch, any other arrow is a lambda.
    private static final String[] FORBIDDEN = {
        "\\b(throw|throws|try|catch|finally|synchronized|assert|package)\\b", "::", "@(?!Override\\b)",
        "(?m)^(?!\\s*(case\\b|default\\b)).*->", "\\bSystem\\.(?!arraycopy\\b)", "\\bstatic\\s*\\{",
        "\\b(Object|Thread|Random|Exception|Error|hashCode|NaN)\\b", "\\b\\w+Exact\\b",
        "\\bjava\\.(?!util\\.(ArrayList|List|Arrays|Iterator);)"};

    private LanguageTest() {
    }

    public static void main(String[] args) throws IOException {
        String text = withoutComments(Files.readString(Path.of("src/main/java/ExamHalls.java")));
        for (String pattern : FORBIDDEN) {
            Matcher matcher = Pattern.compile(pattern).matcher(text);
            Due.isTrue("nothing like " + pattern, !matcher.find());
        }
        Due.isTrue("signs 1 to 127 alone", text.chars().allMatch(c -> c >= 1 && c <= 127));
        Matcher classes = Pattern.compile("\\b(class|enum|interface) \\w+").matcher(text);
        Due.isTrue("at most some twelve classes", classes.results().count() <= 14);
        methods(text);
        Due.end();
    }

    /** Comments become blank lines, so that lengths stay. */
    private static String withoutComments(String text) {
        String noBlocks = Pattern.compile("/\\*.*?\\*/", Pattern.DOTALL).matcher(text)
                .replaceAll(m -> m.group().replaceAll("[^\\n]", ""));
        return noBlocks.replaceAll("//[^\\n]*", "");
    }

    private static void methods(String text) {
        String head = "(?m)^( {4}| {8})(?:[a-z]+ )*\\w+(?:\\[\\])? \\w+\\(([^)]*)\\) \\{$";
        Matcher matcher = Pattern.compile(head).matcher(text);
        int found = 0;
        while (matcher.find()) {
            found++;
            int end = text.indexOf("\n" + matcher.group(1) + "}", matcher.end());
            long lines = text.substring(matcher.start(), end).lines().count() + 1;
            Due.isTrue(matcher.group().trim() + " has " + lines + " lines", lines <= 66);
            Due.isTrue(matcher.group().trim() + " has at most seven parameters",
                    matcher.group(2).split(",").length <= 7);
        }
        Due.isTrue("methods were found", found >= 24);
    }
}
