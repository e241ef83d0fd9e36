import java.nio.file.Files;
import java.nio.file.Path;
import java.util.regex.Matcher;
import java.util.regex.Pattern;

/** What of LANGUAGE.md can be seen in the text of the class itself. */
public final class LanguageTest {
    private static final String[] NEVER = {"->", "::", "\\bcatch\\b", "\\bfinally\\b", "\\bsynchronized\\b",
        "\\bassert\\b", "\\bpackage\\b", "\\bprotected\\b", "static \\{", "Exact\\(", "\\bdouble\\b",
        "\\bfloat\\b", "System\\.(?!arraycopy)", "Math\\.(?!abs|max|min)", "\" \\+|\\+ \"", "\\bvar\\b"};

    private static int wrong = 0;

    public static void main(String[] args) throws Exception {
        String text = Files.readString(Path.of("src/main/java/PaperVote.java"));
        String code = text.replaceAll("(?s)/\\*.*?\\*/", "").replaceAll("//[^\n]*", "");
        for (String never : NEVER) {
            due(!Pattern.compile(never).matcher(code).find(), "has " + never);
        }
        due(count(code, "\\bimport\\b") == 1 && code.contains("import java.util.NoSuchElementException;"),
                "has another import");
        due(count(code, "\\bclass\\b") <= 12, "has more than twelve classes");
        due(count(code, "throw new ") == count(code, "throw new NoSuchElementException\\("), "throws another");
        due(text.chars().allMatch(c -> c == '\n' || c >= 32 && c < 127), "has a sign beyond 127");
        methods(code);
        System.out.println(wrong == 0 ? "the language is kept" : wrong + " breaches");
        if (wrong != 0) {
            System.exit(1);
        }
    }

    private static void due(boolean right, String text) {
        if (!right) {
            wrong++;
            System.out.println("PaperVote.java " + text);
        }
    }

    private static int count(String code, String what) {
        return (int) Pattern.compile(what).matcher(code).results().count();
    }

    /** Methods are short and take seven parameters at most. */
    private static void methods(String code) {
        Matcher m = Pattern.compile("(?m)^( +)[\\w<>\\[\\] ]*?(\\w+)\\(([^()]*)\\)[^;={}]*\\{$").matcher(code);
        int found = 0;
        while (m.find()) {
            if (m.group(2).matches("if|for|while|switch")) {
                continue;
            }
            found++;
            int end = code.indexOf("\n" + m.group(1) + "}", m.end());
            long lines = code.substring(m.start(), end).lines().count() + 1;
            due(lines <= 60, m.group(2) + " has " + lines + " lines");
            due(m.group(3).split(",").length <= 7, m.group(2) + " takes more than seven parameters");
        }
        due(found > 100, "has only " + found + " methods that were seen");
    }
}
