import java.nio.file.Files;
import java.nio.file.Path;
import java.util.List;
import java.util.regex.Matcher;
import java.util.regex.Pattern;

/** What of ../shared/LANGUAGE.md can be read off the text of the class. */
public final class LanguageTest {
    private static final String[] BARRED = {"\\bimport\\b", "\\bpackage\\b", "->", "::", "\\bsynchronized\\b",
        "\\bfinally\\b", "\\bassert\\b", "\\bcatch\\b", "\\bMath\\.", "\\bSystem\\.", "\\bInteger\\.", "\\bLong\\.",
        "Exact\\b", "\\bThread\\b", "\\bequals\\b", "\\bhashCode\\b", "\\btoString\\b", "@", "\\[\\]\\[\\]\\[\\]"};

    private LanguageTest() {
    }

    public static void main(String[] args) throws Exception {
        List<String> lines = Files.readAllLines(Path.of("src/main/java/OpenPoll.java"));
        int opened = -1;
        for (int i = 0; i < lines.size(); i++) {
            String line = lines.get(i);
            String code = line.replaceAll("^\\s*(//|/\\*\\*|\\*).*", "");
            for (String barred : BARRED) {
                Check.isFalse("line " + (i + 1) + " has " + barred, Pattern.compile(barred).matcher(code).find());
            }
            Check.isTrue("line " + (i + 1) + " is short and plain", line.length() <= 120 && line.matches("[ -~]*"));
            if (code.matches("    (    )?[a-z].*\\(.*\\{") || code.matches("            throws .*\\{")) {
                opened = i;
            }
            if (opened >= 0 && code.matches("    (    )?\\}")) {
                Check.isTrue("the method at line " + (opened + 1) + " is short", i - opened <= 60);
                opened = -1;
            }
        }
        String[] allowed = {"IllegalStateException", "IllegalArgumentException", "IndexOutOfBoundsException",
            "UnsupportedOperationException"};
        Matcher thrown = Pattern.compile("throw new (\\w+)\\(\"[ -~]*\"\\);").matcher(String.join("\n", lines));
        int throwing = 0;
        while (thrown.find()) {
            throwing++;
            Check.isTrue("may be thrown: " + thrown.group(1), List.of(allowed).contains(thrown.group(1)));
        }
        Check.equal("throw statements", throwing, String.join("\n", lines).split("\\bthrow\\b", -1).length - 1);
        Check.end();
    }
}
