import java.io.IOException;
import java.nio.file.Files;
import java.nio.file.Path;
import java.util.regex.Matcher;
import java.util.regex.Pattern;

/** Rules of LANGUAGE.md that can be seen in the class's own text. */
public final class LanguageTest {
    private static final Due DUE = new Due("LanguageTest");

    public static void main(String[] args) throws IOException {
        String all = Files.readString(Path.of("src/main/java/ShortProofs.java"));
        String code = all.replaceAll("(?s)/\\*.*?\\*/", "").replaceAll("//[^\n]*", "").replaceAll("'.'", "' '");
        for (String word : new String[] {
            "throw", "throws", "try", "catch", "finally", "synchronized", "assert", "package", "import", "protected",
            "volatile", "transient", "native", "var", "yield", "Exception", "Error", "Object", "Thread", "hashCode",
            "toString", "equals", "String", "double", "float"}) {
            DUE.holds("the word " + word, !Pattern.compile("\\b" + word + "\\b").matcher(code).find());
        }
        DUE.holds("lambda", !code.contains("->"));
        DUE.holds("method reference", !code.contains("::"));
        DUE.holds("static block", !Pattern.compile("\\bstatic\\s*\\{").matcher(code).find());
        DUE.holds("while (true)", !Pattern.compile("while|for\\s*\\(;;").matcher(code).find());
        DUE.holds("signs 1 to 127", all.chars().allMatch(c -> c > 0 && c < 128));
        Matcher classes = Pattern.compile("(\\w+ \\w+ )?final class").matcher(code);
        int many = 0;
        while (classes.find()) {
            many++;
            DUE.holds("classes inside are private and static",
                many == 1 || "private static ".equals(classes.group(1)));
        }
        DUE.holds("some twelve classes", many <= 12);
        methodsAreShort(code);
        DUE.end();
    }

    private static void methodsAreShort(String code) {
        int length = 0;
        for (String line : code.split("\n")) {
            boolean begins = line.matches(" {4}( {4})?[a-zA-Z].*\\) \\{");
            length = begins ? 0 : length + 1;
            if (line.matches(" {4}( {4})?\\}")) {
                DUE.holds("a method of " + length + " lines", length <= 60);
                length = -9999;
            }
        }
    }
}
