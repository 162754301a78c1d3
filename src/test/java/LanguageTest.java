import java.io.IOException;
import java.nio.file.Files;
import java.nio.file.Path;
import java.util.List;
import java.util.regex.Matcher;
import java.util.regex.Pattern;

/** Those rules of ../shared/LANGUAGE.md that can be seen in the text of the program. */
public final class LanguageTest {
    private static final Path PROGRAM = Path.of("src/main/java/ArbitrationFees.java");
    private static final String[] NEVER = {"->", "::", "\\bassert\\b", "\\bsynchronized\\b", "\\bfinally\\b", "\\bcatch\\b",
        "\\bpackage\\b", "\\bprotected\\b", "\\bvar\\b", "\\bfloat\\b", "Exact\\(", "\\.getMessage\\b", "\\bhashCode\\b",
        "\\btoString\\b", "\\bprintln\\b", "\\bRandom\\b", "\\bThread\\b", "\\bcurrentTimeMillis\\b", "\\bnanoTime\\b",
        "\\b(Integer|Long)\\.M", "\\bMath\\.(?!min\\(|max\\()", "\\bSystem\\.(?!arraycopy\\()", "\\bstatic \\{", "@"};
    private static final String EXCEPTIONS = "(IllegalState|IllegalArgument|IndexOutOfBounds|Arithmetic"
            + "|UnsupportedOperation|NoSuchElement)Exception";

    public static void main(String[] args) throws IOException {
        List<String> lines = Files.readAllLines(PROGRAM);
        for (String line : lines) {
            checkLine(line.replaceAll("//.*|^\\s*/?\\*.*", ""));
        }
        checkMethods(lines);
        long classes = lines.stream().filter(line -> line.contains(" class ") && line.endsWith("{")).count();
        Check.due("at most twelve classes", classes <= 12 ? 1 : 0, 1);
        Check.end();
    }

    private static void checkLine(String code) {
        for (String pattern : NEVER) {
            if (Pattern.compile(pattern).matcher(code).find()) {
                Check.fail("outside of the language (" + pattern + "): " + code);
            }
        }
        if (code.chars().anyMatch(sign -> sign < 32 || sign > 126)) {
            Check.fail("a sign outside of the language: " + code);
        }
        if (code.startsWith("import") && !code.equals("import java.util.NoSuchElementException;")) {
            Check.fail("a library outside of the language: " + code);
        }
        checkNew(code);
    }

    /** All rows are made with the object, none by a call. */
    private static void checkNew(String code) {
        boolean isThrow = code.matches("\\s*throw new " + EXCEPTIONS + "\\(\\);");
        boolean isField = code.matches("\\s*(private )?final [\\w\\[\\]]+ \\w+ = new .*;");
        boolean isHistory = code.trim().equals("history[i] = new Accounts();");
        if (Pattern.compile("\\b(new|throw)\\b").matcher(code).find() && !isThrow && !isField && !isHistory) {
            Check.fail("something is made or thrown here: " + code);
        }
    }

    private static void checkMethods(List<String> lines) {
        Pattern head = Pattern.compile("^( {4}| {8})(?! )[\\w\\[\\] ]+\\(.*\\{$");
        for (int i = 0; i < lines.size(); i++) {
            Matcher matcher = head.matcher(lines.get(i));
            if (matcher.matches()) {
                int end = lines.subList(i, lines.size()).indexOf(matcher.group(1) + "}");
                Check.due("at most sixty lines: " + lines.get(i), end >= 0 && end <= 60 ? 1 : 0, 1);
            }
        }
    }
}
