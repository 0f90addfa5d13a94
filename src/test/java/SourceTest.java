import java.io.IOException;
import java.nio.file.Files;
import java.nio.file.Path;
import java.util.regex.Matcher;
import java.util.regex.Pattern;

/** The rules of LANGUAGE.md that can be seen in the text of the program; it is run from the project's folder. */
public final class SourceTest {
    private static final Check CHECK = new Check("SourceTest");
    private static final String[] RULED_OUT = {
        "->", "::", "\\btry\\b", "\\bcatch\\b", "\\bfinally\\b", "\\bsynchronized\\b", "\\bassert\\b", "\\bpackage\\b",
        "\\bprotected\\b", "\\bnative\\b", "\\bvolatile\\b", "\\btransient\\b", "\\bvar\\b", "static \\{",
        "\\w+Exact\\b",
        "\\bSystem\\.(?!arraycopy\\b)", "\\bThread\\b", "\\brandom\\b", "MAX_VALUE", "MIN_VALUE", "\" \\+", "\\+ \"",
        "\\.equals\\(", "hashCode", "toString", "\\[\\]\\[\\]", "new int\\[\\w+\\]\\[", "String\\.", "[^\\x00-\\x7f]",
        "getMessage", "\\bObject\\b", "\\bsuper\\b", "@\\w+",
    };

    public static void main(String[] args) throws IOException {
        String source = Files.readString(Path.of("src/main/java/YarnMill.java"));
        String code = source.replaceAll("(?s)/\\*.*?\\*/", "").replaceAll("//.*", "");
        for (String ruledOut : RULED_OUT) {
            Matcher matcher = Pattern.compile(ruledOut).matcher(code);
            CHECK.due("found of " + ruledOut, matcher.find() ? matcher.group() : "nothing", "nothing");
        }
        importsOneException(code);
        throwsWrittenTexts(code);
        CHECK.end();
    }

    private static void importsOneException(String code) {
        Matcher matcher = Pattern.compile("(?m)^import .*$").matcher(code);
        CHECK.due("import", matcher.find() ? matcher.group() : "", "import java.util.NoSuchElementException;");
        CHECK.due("further import", matcher.find(), false);
    }

    private static void throwsWrittenTexts(String code) {
        String exceptions = "(IllegalState|IllegalArgument|IndexOutOfBounds|Arithmetic|UnsupportedOperation|"
                + "NoSuchElement)";
        String rest = code.replaceAll("throw new " + exceptions + "Exception\\(\"[a-z ,']+\"\\);", "");
        CHECK.due("other throws", Pattern.compile("\\bthrow\\b").matcher(rest).find(), false);
    }
}
