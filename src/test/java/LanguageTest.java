import java.nio.file.Files;
import java.nio.file.Path;
import java.util.regex.Matcher;
import java.util.regex.Pattern;

/** What a look at the program's text can tell of LANGUAGE.md. It is run from the project's directory. */
public final class LanguageTest {
    private static final String[] BANNED = {
        "\\bimport\\b", "\\bpackage\\b", "->", "::", "\\bcatch\\b", "\\btry\\b", "\\bfinally\\b", "\\bsynchronized\\b",
        "\\bassert\\b", "\\bprotected\\b", "\\bnative\\b", "\\bvolatile\\b", "\\binstanceof\\b", "\\w+Exact\\b",
        "\\bequals\\b", "\\bhashCode\\b", "\\bObject\\b", "\\bThread\\b", "\\bRandom\\b", "\\bSystem\\b",
        "\\bvar\\b", "\\bfloat\\b", "\\bdouble\\b", "static\\s*\\{", "\"\\s*\\+|\\+\\s*\"", "\\bwhile\\b",
    };

    public static void main(String[] args) throws Exception {
        String text = Files.readString(Path.of("src/main/java/Greenwheels.java"));
        Due.is("signs below 128", text.chars().allMatch(c -> c < 128), true);
        String code = text.replaceAll("(?s)/\\*.*?\\*/", "").replaceAll("//[^\n]*", "");
        for (String banned : BANNED) {
            Matcher found = Pattern.compile(banned).matcher(code);
            Due.is(banned + " is not in it", found.find() ? found.group() : "none", "none");
        }
        Matcher thrown = Pattern.compile("throw new (\\w+)\\(\"[a-z ]+\"\\);").matcher(code);
        int throwing = 0;
        while (thrown.find()) {
            throwing++;
            Due.is("throws", thrown.group(1).matches("(IndexOutOfBounds|IllegalArgument|IllegalState)Exception"), true);
        }
        Due.is("each throw is of that form", code.split("\\bthrow\\b").length - 1, throwing);
        Matcher library = Pattern.compile("\\b(Math|Integer|Long)\\.(\\w+)").matcher(code);
        while (library.find()) {
            Due.is("library", library.group(2).matches("abs|max|min|floorMod|floorDiv|bitCount|compare"), true);
        }
        int classes = code.split("\\bclass\\b").length - 1;
        Due.is("some twelve classes", classes <= 12, true);
        methodsAreShort(text);
        Due.end();
    }

    private static void methodsAreShort(String text) {
        String[] lines = text.split("\n");
        int start = -1;
        for (int k = 0; k < lines.length; k++) {
            if (lines[k].matches("( {4}| {8})\\S.*\\{") && !lines[k].contains(" class ")) {
                start = k;
            }
            if (start >= 0 && lines[k].matches("( {4}| {8})\\}")) {
                Due.is("lines of the method at " + (start + 1), k - start < 60, true);
                start = -1;
            }
        }
    }
}
