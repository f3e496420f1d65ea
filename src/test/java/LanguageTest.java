import java.nio.charset.StandardCharsets;
import java.nio.file.Files;
import java.nio.file.Path;
import java.util.regex.Matcher;
import java.util.regex.Pattern;

/** The rules of LANGUAGE.md that can be read off the text; run from the project's folder, as .ci/run does. */
public final class LanguageTest {
    private static final Due DUE = new Due();
    private static final String[] FORBIDDEN = {"throw", "throws", "try", "catch", "finally", "synchronized", "assert", "import static",
        "package", "protected", "->", "::", "System\\.(?!arraycopy)", "Object", "Random", "Thread", "hashCode", "toString",
        "\\w+Exact", "\\bnew \\w+\\([^;{]*\\) *\\{"};

    public static void main(String[] args) throws Exception {
        String text = Files.readString(Path.of("src/main/java/SafeSweeps.java"), StandardCharsets.ISO_8859_1);
        String code = text.replaceAll("(?s)/\\*.*?\\*/", "").replaceAll("//.*", "");
        for (String word : FORBIDDEN) {
            String whole = Character.isLetter(word.charAt(0)) ? "\\b" + word + (word.endsWith(")") ? "" : "\\b") : word;
            Matcher found = Pattern.compile(whole).matcher(code);
            DUE.is("rule: " + word + " stands there", found.find(), false);
        }
        Matcher imports = Pattern.compile("(?m)^import (.*);").matcher(code);
        while (imports.find()) {
            DUE.is("import " + imports.group(1), imports.group(1).matches("java\\.util\\.(Arrays|ArrayList|List|Iterator)"), true);
        }
        DUE.is("rule 3: characters beyond ASCII", text.chars().anyMatch(c -> c > 126), false);
        DUE.is("rule 5: static fields that are not final", Pattern.compile("static (?!final)[\\w\\[\\]]+ \\w+ *[;=]").matcher(code).find(), false);
        DUE.is("rule 11: at most twelve classes", Pattern.compile("\\bclass \\w+").matcher(code).results().count() <= 12, true);
        methodsAreShort(code);
        DUE.end();
    }

    /** Rule 11: a method begins at a line that ends in a brace behind a row of parameters, and ends at the brace below it. */
    private static void methodsAreShort(String code) {
        Matcher method = Pattern.compile("(?m)^( +)(?! )[\\w\\[\\] ]+ \\w+\\(([^)]*)\\) \\{\\n((?s).*?)^\\1\\}").matcher(code);
        int methods = 0;
        while (method.find()) {
            methods++;
            DUE.is("rule 11: lines of " + method.group(0).trim().split("\n")[0], method.group(3).lines().count() <= 60, true);
            DUE.is("rule 11: parameters", method.group(2).split(",").length <= 7, true);
        }
        DUE.is("methods were found", methods > 60, true);
    }
}
