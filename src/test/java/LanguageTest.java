import java.io.IOException;
import java.nio.file.Files;
import java.nio.file.Path;
import java.util.regex.Matcher;
import java.util.regex.Pattern;

/** What LANGUAGE.md rules out and a reader of the text alone can see. */
public final class LanguageTest {
    private static final String[] RULED_OUT = {"\\bthrow\\b", "\\bthrows\\b", "\\btry\\b", "\\bcatch\\b",
        "\\bsynchronized\\b", "\\bassert\\b", "->", "::", "\\bprotected\\b", "\\bpackage\\b",
        "\\bSystem\\.(?!arraycopy)", "Exact\\b", "\\bThread\\b", "\\bRandom\\b", "\\.values\\(",
        "\\bString toString\\b", "\\bhashCode\\b", "import (?!java\\.util\\.Arrays;)", "@"};

    public static void main(String[] args) throws IOException {
        Check check = new Check("the language");
        String text = Files.readString(Path.of(args[0]));
        String code = text.replaceAll("(?s)/\\*.*?\\*/", "").replaceAll("//.*", "");
        for (String word : RULED_OUT) {
            Matcher matcher = Pattern.compile(word).matcher(code);
            check.no("the code has " + word, matcher.find());
        }
        check.yes("signs are plain", text.chars().allMatch(c -> c < 128));
        methodsAreShort(check, code);
        check.end();
    }

    private static void methodsAreShort(Check check, String code) {
        Matcher head = Pattern.compile("(?m)^( {4}| {8})(?=\\w)[\\w\\[\\] ]+\\(([^)]*)\\) \\{$").matcher(code);
        while (head.find()) {
            int end = code.indexOf("\n" + head.group(1) + "}", head.end());
            long lines = code.substring(head.start(), end).lines().count();
            check.yes(head.group().trim() + " is short", lines <= 60);
            check.yes(head.group().trim() + " takes few", head.group(2).split(",").length <= 7);
        }
    }
}
