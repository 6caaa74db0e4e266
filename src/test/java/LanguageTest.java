import java.io.IOException;
import java.nio.file.Files;
import java.nio.file.Path;
import java.util.List;
import java.util.regex.Matcher;
import java.util.regex.Pattern;

/** What of ../shared/LANGUAGE.md can be seen in the program's text. Run where the project lies. */
public final class LanguageTest {
    private static final String[] RULED_OUT = {
        "->", "::", "\\bfinally\\b", "\\bsynchronized\\b", "\\bassert\\b", "\\bcatch\\b", "\\btry\\b",
        "\\bpackage\\b", "\\bstatic\\s*\\{", "\\bprotected\\b", "\\bvolatile\\b", "\\btransient\\b", "\\bnative\\b",
        "\\bvar\\b", "\\w+Exact\\b", "\\bThread\\b", "\\bRandom\\b", "\\bSystem\\s*\\.(?!arraycopy\\b)",
        "\\bNaN\\b", "\\bObject\\b", "\\bthis\\s*[,)]", "@", "\\bimport\\b(?! java\\.util\\.NoSuchElementException;)",
        "\\bRuntime\\b",
        "[^\\x00-\\x7f]"
    };
    private static final String THROWN = "IllegalStateException|IllegalArgumentException|IndexOutOfBoundsException"
            + "|UnsupportedOperationException|NoSuchElementException";
    private static final int LONGEST_METHOD = 60;
    private static final int MOST_CLASSES = 12;

    private static int wrong = 0;

    public static void main(String[] args) throws IOException {
        String source = Files.readString(Path.of("src/main/java/Queryschool.java"));
        String code = source
                .replaceAll("(?s)/\\*.*?\\*/", "")
                .replaceAll("//[^\n]*", "")
                .replaceAll("\"[^\"\n]*\"", "\"\"");
        for (String rule : RULED_OUT) {
            Matcher found = Pattern.compile(rule).matcher(code);
            check(!found.find(), "ruled out: " + rule);
        }
        exceptions(code);
        check(count("\\bclass\\b", code) <= MOST_CLASSES, "too many classes");
        rows(code);
        methods(List.of(code.split("\n")));
        System.out.println("LanguageTest: " + RULED_OUT.length + " signs looked for, " + wrong + " wrong");
        if (wrong != 0) {
            System.exit(1);
        }
    }

    private static void check(boolean holds, String what) {
        if (!holds) {
            wrong++;
            System.out.println(what);
        }
    }

    private static int count(String sign, String text) {
        int count = 0;
        Matcher found = Pattern.compile(sign).matcher(text);
        while (found.find()) {
            count++;
        }
        return count;
    }

    private static void exceptions(String code) {
        check(count("\\bthrow\\b", code) == count("\\bthrow new (" + THROWN + ")\\(\"\"\\);", code),
                "each throw makes an exception of the document, with a written text");
    }

    /** Rows are read and written by at and put alone; no divisor is anything but a written number. */
    private static void rows(String code) {
        check(count("\\w\\[[^\\]]", code.replaceAll("new int\\[[^\\]]*\\]", "")) == 2, "a row used elsewhere");
        check(count("[/%](?! (2|3|10|100|2147483647L|\\(float\\) known\\.count|\\(double\\) known\\.count)\\b)"
                + "(?!= 3;)", code) == 0, "a divisor that is no written number");
    }

    private static void methods(List<String> lines) {
        int begin = -1;
        for (int i = 0; i < lines.size(); i++) {
            String line = lines.get(i);
            boolean isHead = line.matches("( {4}| {8})\\S.*\\) ?(throws .*)?\\{") || line.matches(" {12}throws .*\\{");
            if (isHead) {
                begin = i;
            }
            if (begin >= 0 && line.matches("( {4}| {8})\\}")) {
                check(i - begin <= LONGEST_METHOD, "a long method at line " + begin);
                begin = -1;
            }
            check(line.length() <= 120, "a long line: " + line);
        }
    }
}
