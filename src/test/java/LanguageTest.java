import java.io.IOException;
import java.nio.file.Files;
import java.nio.file.Path;
import java.util.regex.Matcher;
import java.util.regex.Pattern;

/** What a look at the text of the class can tell of ../shared/LANGUAGE.md; the rest is for readers. */
final class LanguageTest {
    private static final Due DUE = new Due("LanguageTest");
    private static final int MOST_LINES = 60;
    private static final int MOST_PARAMETERS = 7;
    private static final int MOST_CLASSES = 12;
    private static final Pattern METHOD = Pattern.compile("^( +)(?:public |private |static |final )*(?!return|new|else)(?:[\\w\\[\\]<>]+ )?(\\w+)\\(([^)]*)\\) \\{$");

    public static void main(String[] args) throws IOException {
        String text = Files.readString(Path.of("src/main/java/GraverCalculator.java"));
        String code = withoutComments(text);
        signs(text);
        lacks(code, 4, "\\bimport\\b", "\\bpackage\\b", "\\bSystem\\.(?!arraycopy\\()", "\\w+Exact\\(", "\\bThread\\b", "\\bRuntime\\b");
        lacks(code, 2, "->", "::", "\\bnew [\\w<>]+\\([^)]*\\) *\\{", "\\bnative\\b", "\\btransient\\b", "\\bvolatile\\b");
        lacks(code, 5, "\\bstatic \\{", "\\bstatic (?!final|boolean|int|long|void|class|enum|interface|abstract|record)\\w+ ");
        lacks(code, 6, "\\bthrows?\\b", "\\btry\\b", "\\bcatch\\b", "\\bfinally\\b", "\\bsynchronized\\b", "\\bassert\\b", "\\bhashCode\\b", "\\btoString\\b");
        lacks(code, 9, "while \\(true\\)", "for \\([^;]*;\\s*;", "\\bgoto\\b");
        lacks(code, 1, "\\bprotected\\b", "(?m)^    (?!public |private |\\}|/\\*\\*| \\*|//)\\S");
        DUE.is("classes are " + MOST_CLASSES + " at most", count(code, "\\bclass \\w+") <= MOST_CLASSES ? 1 : 0, 1);
        methods(code);
        DUE.end();
    }

    private static void signs(String text) {
        for (int i = 0; i < text.length(); i++) {
            char sign = text.charAt(i);
            if (sign != '\n' && (sign < ' ' || sign > '~')) DUE.is("sign at " + i, sign, ' ');
        }
        DUE.is("the text is not empty", text.isEmpty() ? 1 : 0, 0);
    }

    private static String withoutComments(String text) {
        return text.replaceAll("(?s)/\\*.*?\\*/", "").replaceAll("//[^\n]*", "");
    }

    private static void lacks(String code, int rule, String... patterns) {
        for (String pattern : patterns) {
            Matcher found = Pattern.compile(pattern).matcher(code);
            DUE.is("rule " + rule + ": " + pattern, found.find() ? found.group() : "", "");
        }
    }

    private static int count(String code, String pattern) {
        int number = 0;
        for (Matcher found = Pattern.compile(pattern).matcher(code); found.find(); ) number++;
        return number;
    }

    private static void methods(String code) {
        String[] lines = code.split("\n");
        int seen = 0;
        for (int i = 0; i < lines.length; i++) {
            Matcher head = METHOD.matcher(lines[i]);
            if (!head.matches() || head.group(2).matches("if|for|while|switch")) continue;
            int end = i;
            while (end < lines.length && !lines[end].equals(head.group(1) + "}")) end++;
            seen++;
            DUE.is("lines of " + head.group(2) + " (" + (end - i + 1) + ") are few", end - i + 1 <= MOST_LINES ? 1 : 0, 1);
            DUE.is("parameters of " + head.group(2) + " are few", head.group(3).split(",").length <= MOST_PARAMETERS ? 1 : 0, 1);
        }
        DUE.is("methods were seen", seen >= 27 ? 1 : 0, 1);
    }
}
