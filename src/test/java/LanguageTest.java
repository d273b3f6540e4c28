import java.io.IOException;
import java.nio.file.Files;
import java.nio.file.Path;
import java.util.regex.Matcher;
import java.util.regex.Pattern;

/** Rules of LANGUAGE.md that a look at the text can hold: words it rules out, and where objects are made. */
final class LanguageTest {
    private static final String[] RULED_OUT = {"\\bimport\\b", "\\bpackage\\b", "\\bcatch\\b", "\\bfinally\\b",
        "\\bthrow\\b", "\\bassert\\b", "\\bsynchronized\\b", "->", "::", "\\bstatic\\s*\\{", "\\bSystem\\.(?!arraycopy)",
        "\\bMath\\.\\w+Exact\\b", "\\.(hashCode|toString)\\(", "\\bprotected\\b", "[^\\x00-\\x7f]"};

    public static void main(String[] args) throws IOException {
        String source = Files.readString(Path.of("src/main/java/SceneShots.java"));
        String code = source.replaceAll("(?s)/\\*.*?\\*/", "").replaceAll("//[^\\n]*", "");
        for (String word : RULED_OUT) {
            Due.due("'" + word + "' in the class", times(word, code), 0);
        }
        // A constructor's line assigns; a field's line, too. A call that makes an object would ask for room each time.
        Due.due("objects made elsewhere than in rows of fields and constructors",
                times("\\bnew\\b", code) - times("(?m)^ *(private )?(final )?[\\w\\[\\]]+ ?[\\w\\[\\]]* = new \\w+", code), 0);
        Due.finish("LanguageTest");
    }

    private static int times(String pattern, String code) {
        int times = 0;
        for (Matcher found = Pattern.compile(pattern).matcher(code); found.find();) {
            times++;
        }
        return times;
    }
}
