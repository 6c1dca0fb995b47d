import java.io.IOException;
import java.nio.file.Files;
import java.nio.file.Path;
import java.util.regex.Matcher;
import java.util.regex.Pattern;

/** What of LANGUAGE.md can be seen in the text of the program. */
public final class LanguageTest {
    private static final Due D = new Due();
    private static final String[] BANNED = {"\\bthrow\\b", "\\bthrows\\b", "\\btry\\b", "\\bcatch\\b", "\\bfinally\\b", "\\bsynchronized\\b",
        "\\bassert\\b", "->", "::", "\\bprotected\\b", "\\bvar\\b", "@Override", "\\bObject\\b", "\\bSystem\\.(?!arraycopy)", "Exact\\b",
        "\\bThread\\b", "\\bRandom\\b", "\\bString\\.format", "\\bdouble\\b", "\\bfloat\\b", "\\bstatic\\s*\\{", "\\bpackage\\b",
        "Arrays\\.(?!fill\\()", "[^\\x00-\\x7f]"};

    private static String withoutComments(String text) {
        return text.replaceAll("(?s)/\\*.*?\\*/", "").replaceAll("//[^\n]*", "");
    }

    private static void banned(String code) {
        for (String pattern : BANNED) {
            Matcher m = Pattern.compile(pattern).matcher(code);
            D.holds("nothing like " + pattern, !m.find());
        }
        Matcher imports = Pattern.compile("\\bimport ([^;]*);").matcher(code);
        while (imports.find()) {
            D.holds("import " + imports.group(1), imports.group(1).equals("java.util.Arrays"));
        }
        Matcher fields = Pattern.compile("\\bstatic (?!final|boolean|int \\w+\\(|long \\w+\\(|final class)[^\n]*").matcher(code);
        D.holds("no static state", !fields.find());
    }

    public static void main(String[] args) throws IOException {
        String text = Files.readString(Path.of("src/main/java/FortyBasket.java"));
        banned(withoutComments(text));
        D.finish();
    }
}
