import java.io.IOException;
import java.nio.charset.StandardCharsets;
import java.nio.file.Files;
import java.nio.file.Path;
import java.util.regex.Matcher;
import java.util.regex.Pattern;

/** Rules of LANGUAGE.md that can be seen in the text of the class; run from the project's folder. */
public final class LanguageTest {
    private static final String[] FORBIDDEN = {
        "->", "::", "\\bsynchronized\\b", "\\bfinally\\b", "\\bassert\\b", "\\bstatic\\s*\\{", "\\bpackage\\b", "Exact\\(",
        "\\bprotected\\b", "\\bcatch\\b", "\\bSystem\\.(?!arraycopy)", "\\bThread\\b", "\\bRandom\\b", "\\bgetMessage\\b",
        "\\.equals\\(", "\\bhashCode\\b", "\\btoString\\b", "\" *\\+", "\\+ *\"", "%",
        "import (?!java\\.util\\.NoSuchElementException;)"};
    private static final Pattern METHOD = Pattern.compile("\n( +)[a-zA-Z][^\n;=]*\\(([^\n]*)\\)[^\n;]*\\{\n(.*?)\n\\1\\}", Pattern.DOTALL);

    public static void main(String[] args) throws IOException {
        String source = Files.readString(Path.of("src/main/java/SoupTable.java"), StandardCharsets.UTF_8);
        String code = source.replaceAll("/\\*\\*.*?\\*/", "").replaceAll("//[^\n]*", "");
        String codeWithoutTexts = code.replaceAll("\"[^\"\n]*\"", "\"\"");
        for (String forbidden : FORBIDDEN) {
            Matcher matcher = Pattern.compile(forbidden).matcher(codeWithoutTexts);
            Script.same("no " + forbidden, matcher.find() ? matcher.group() : "none", "none");
        }
        Script.same("signs 1 to 127 alone", source.chars().allMatch(sign -> sign >= 1 && sign <= 127), true);
        Script.same("some twelve classes at most", code.split("\\b(class|enum|interface|record)\\b").length - 1 <= 12, true);
        Matcher method = METHOD.matcher(code);
        int methods = 0;
        while (method.find()) {
            methods++;
            Script.same("a short method: " + method.group().trim().split("\n")[0], method.group(3).split("\n").length <= 60, true);
            Script.same("seven parameters at most", method.group(2).split(",").length <= 7, true);
        }
        Script.same("the methods were found", methods > 40, true);
        Script.end();
    }
}
