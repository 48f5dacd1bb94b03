import java.io.IOException;
import java.nio.file.Files;
import java.nio.file.Path;
import java.util.List;
import java.util.regex.Matcher;
import java.util.regex.Pattern;

/** Those rules of LANGUAGE.md that can be read off the class's text. */
public final class LanguageTest {
    private static final Path SOURCE = Path.of("src/main/java/StreamCounts.java");
    private static final List<String> WORDS = List.of("throw", "throws", "try", "catch", "finally",
        "synchronized", "assert", "package", "protected", "native", "volatile", "double", "float");
    private static final List<String> LIBRARY = List.of("Math.min", "Math.max", "Arrays.fill", "System.arraycopy");
    private static final int MOST_LINES = 60;
    private static final int MOST_PARAMETERS = 7;
    private static final int MOST_CLASSES = 12;

    public static void main(String[] args) throws IOException {
        Check check = new Check();
        String code = Files.readString(SOURCE).replaceAll("(?s)/\\*.*?\\*/", "").replaceAll("//[^\n]*", "");
        for (String word : WORDS) {
            check.isTrue("without " + word, !Pattern.compile("\\b" + word + "\\b").matcher(code).find());
        }
        check.isTrue("no lambda, no method reference", !code.contains("->") && !code.contains("::"));
        check.isTrue("one import", code.split("import ").length == 2 && code.contains("import java.util.Arrays;"));
        check.isTrue("no static block", !Pattern.compile("static\\s*\\{").matcher(code).find());
        check.isTrue("few classes", code.split("\\bclass ").length - 1 <= MOST_CLASSES);
        libraryCalls(check, code);
        methods(check, code);
        check.end();
    }

    private static void libraryCalls(Check check, String code) {
        Matcher call = Pattern.compile("\\b(Math|Arrays|System|Integer|Long|String)\\.\\w+").matcher(code);
        while (call.find()) {
            check.isTrue("library " + call.group(), LIBRARY.contains(call.group()));
        }
    }

    private static void methods(Check check, String code) {
        Matcher head = Pattern.compile("(?m)^( +)(?:(?:public|private|static|final) )*(?:[\\w\\[\\]]+ )?(\\w+)\\(([^)]*)\\) \\{$")
            .matcher(code);
        while (head.find()) {
            String name = head.group(2);
            if (List.of("if", "for", "while", "switch").contains(name)) {
                continue;
            }
            int end = code.indexOf("\n" + head.group(1) + "}", head.end());
            long lines = code.substring(head.start(), end).lines().count();
            check.isTrue(name + " is short", lines <= MOST_LINES);
            check.isTrue(name + " takes few", head.group(3).split(",").length <= MOST_PARAMETERS);
        }
    }
}
