import java.io.IOException;
import java.nio.file.Files;
import java.nio.file.Path;
import java.util.regex.Matcher;
import java.util.regex.Pattern;

/** Looks through the class for what LANGUAGE.md rules out, as far as a search for words can tell. */
final class LanguageTest {
    private static final String SOURCE = "src/main/java/CoastRadar.java";
    private static final int METHOD_LINES = 60;

    public static void main(String[] args) throws IOException {
        String code = plainCode(Files.readString(Path.of(SOURCE)));
        String[] ruledOut = {"->", "::", "\\bassert\\b", "\\bsynchronized\\b", "\\bfinally\\b", "\\btry\\b", "\\bimport\\b", "\\bpackage\\b",
            "Exact\\s*\\(", "\\b(equals|hashCode|toString|getClass)\\s*\\(", "\\bvar\\b", "\\bstatic\\s*\\{", "\\bstatic final (double|float)\\b",
            "\\bprivate static (?!final\\b)\\w+(\\[\\])* \\w+\\s*[=;]", "\"\\s*\\+", "\\+\\s*\"", "\\b(Object|HashMap|Random|System\\.(?!arraycopy))\\b",
            "\\bprotected\\b", "\\bMath\\.(?!min|max|floorDiv\\b)\\w+", "[^\\x00-\\x7f]"};
        for (String pattern : ruledOut) {
            Matcher found = Pattern.compile(pattern).matcher(code);
            Checks.isFalse("LANGUAGE.md rules out " + pattern, found.find());
        }
        faceNamesAreNotUsedAgain(code);
        methodsAreShort(code);
        Checks.end("LanguageTest");
    }

    private static String plainCode(String source) {
        return source.replaceAll("(?s)/\\*.*?\\*/", "").replaceAll("//.*", "").replaceAll("\"[^\"]*\"", "\"\"");
    }

    private static void faceNamesAreNotUsedAgain(String code) {
        Matcher face = Pattern.compile("\\n    public [a-z]+ (\\w+)\\(").matcher(code);
        int methods = 0;
        while (face.find()) {
            methods++;
            Matcher other = Pattern.compile("\\n ++(?!public)[\\w\\[\\] ]+ " + face.group(1) + "\\([^;]*\\{").matcher(code);
            Checks.isFalse("another method is called " + face.group(1), other.find());
        }
        Checks.equal("methods of the face", methods, 20);
    }

    private static void methodsAreShort(String code) {
        int start = -1;
        String[] lines = code.split("\n");
        for (int i = 0; i < lines.length; i++) {
            if (lines[i].matches("(    |        )[a-z][^=;]*\\).*\\{") && !lines[i].contains("class ")) {
                start = i;
            } else if (lines[i].matches("(    |        )\\}") && start >= 0) {
                Checks.isTrue("lines of " + lines[start].trim(), i - start < METHOD_LINES);
            }
        }
        Checks.isTrue("methods were found", start >= 0);
    }
}
