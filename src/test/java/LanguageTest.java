import java.nio.file.Files;
import java.nio.file.Path;
import java.util.regex.Matcher;
import java.util.regex.Pattern;

/** What can be seen in the source of the rules of LANGUAGE.md; it is run in the project's folder. */
public final class LanguageTest {
    private static final String[] FORBIDDEN = {
        "throw", "throws", "try", "catch", "finally", "synchronized", "assert", "volatile", "transient", "native",
        "package", "protected", "hashCode", "toString", "System\\.(?!arraycopy)\\w+", "Integer\\.[A-Z]\\w*",
        "Long\\.[A-Z]\\w*", "\\w+Exact", "Random", "Thread", "Object", "HashMap", "Map", "Optional", "var",
    };
    private static final String[] FORBIDDEN_SIGNS = {"->", "::", "new \\w+\\(\\) \\{", "\\?\\?", "\\[\\]\\[\\]\\["};
    private static final String IMPORTS = "import java.util.Arrays;";

    public static void main(String[] args) throws Exception {
        String source = Files.readString(Path.of("src/main/java/EvenlyPoured.java"));
        for (int k = 0; k < source.length(); k++) {
            char c = source.charAt(k);
            if (c > 126 || (c < 32 && c != '\n')) {
                Due.fail("a sign that is not plain, at " + k);
            }
        }
        String code = source.replaceAll("/\\*(?s:.*?)\\*/", "").replaceAll("//[^\n]*", "");
        for (String word : FORBIDDEN) {
            absent(code, "\\b" + word + "\\b");
        }
        for (String sign : FORBIDDEN_SIGNS) {
            absent(code, sign);
        }
        Matcher imports = Pattern.compile("(?m)^import.*$").matcher(code);
        while (imports.find()) {
            Due.same("an import", imports.group(), IMPORTS);
        }
        shortMethods(code);
        Due.finish();
    }

    private static void absent(String code, String pattern) {
        Matcher found = Pattern.compile(pattern).matcher(code);
        Due.due("finds " + pattern, found.find() ? 1 : 0, 0);
    }

    /** A method's head ends with {, and its } stands below the head's first sign. */
    private static void shortMethods(String code) {
        String[] lines = code.split("\n");
        Pattern head = Pattern.compile("^( +)(?:public |private |static |final )*\\w+(?:\\[\\])?(?: \\w+)?\\((.*)\\) \\{$");
        for (int k = 0; k < lines.length; k++) {
            Matcher method = head.matcher(lines[k]);
            if (!method.matches() || lines[k].matches(" +(if|for|while|switch|else) .*")) {
                continue;
            }
            int end = k;
            while (end < lines.length && !lines[end].equals(method.group(1) + "}")) {
                end++;
            }
            Due.due("60 lines at most: " + lines[k].trim(), end - k <= 60 ? 1 : 0, 1);
            int given = method.group(2).isEmpty() ? 0 : method.group(2).split(",").length;
            Due.due("7 given at most: " + lines[k].trim(), given <= 7 ? 1 : 0, 1);
        }
    }
}
