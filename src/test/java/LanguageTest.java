import java.io.IOException;
import java.nio.file.Files;
import java.nio.file.Path;
import java.util.regex.Matcher;
import java.util.regex.Pattern;

/** What of LANGUAGE.md can be seen in the class's text alone; it is run from the project's folder. */
public final class LanguageTest {
    private static final String[] RULED_OUT = {"\\bimport\\b", "\\bpackage\\b", "->", "::", "\\bcatch\\b", "\\btry\\b",
        "\\bfinally\\b", "\\bsynchronized\\b", "\\bassert\\b", "\\bdouble\\b", "\\bSystem\\b", "\\bException\\b", "Exact\\b",
        "\\bprotected\\b", "\\bnative\\b", "\\bvolatile\\b", "\\bThread\\b", "while \\(true\\)", "for \\(;;\\)",
        "hashCode", "\\.equals\\(", "getMessage", "static \\{", "[^\\x00-\\x7F]"};
    private static final String THROWN = "throw new (IndexOutOfBounds|IllegalArgument|IllegalState)Exception\\(\"[^\"]*\"\\);";
    private static int wrong = 0;

    private static void report(String text) {
        wrong++;
        System.out.println(text);
    }

    public static void main(String[] args) throws IOException {
        String text = Files.readString(Path.of("src/main/java/ArchYard.java"));
        String code = text.replaceAll("(?s)/\\*.*?\\*/", "").replaceAll("//[^\n]*", "");
        for (String pattern : RULED_OUT) {
            Matcher matcher = Pattern.compile(pattern).matcher(code);
            if (matcher.find()) report("ruled out: " + matcher.group());
        }
        Matcher thrown = Pattern.compile("\\bthrow\\b[^;]*;").matcher(code);
        while (thrown.find()) {
            if (!thrown.group().matches(THROWN)) report("not thrown so: " + thrown.group());
        }
        int classes = 0;
        Matcher kinds = Pattern.compile("\\b(class|interface|enum|record) \\w").matcher(code);
        while (kinds.find()) classes++;
        if (classes > 12) report("classes: " + classes);
        checkMethods(code.split("\n"));
        System.exit(wrong == 0 ? 0 : 1);
    }

    /** A method's first line is indented by 4 or 8 and opens it, its last line closes it at the same depth. */
    private static void checkMethods(String[] lines) {
        for (int i = 0; i < lines.length; i++) {
            Matcher head = Pattern.compile("^(    |        )\\w[^=;]*\\(.*").matcher(lines[i]);
            if (!head.matches()) continue;
            int end = i;
            while (end < lines.length && !lines[end].equals(head.group(1) + "}")) end++;
            if (end - i + 1 > 60) report("a long method: " + lines[i].trim());
            if (lines[i].chars().filter(sign -> sign == ',').count() > 6) report("many parameters: " + lines[i].trim());
        }
    }
}
