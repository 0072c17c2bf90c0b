import java.io.IOException;
import java.nio.file.Files;
import java.nio.file.Path;
import java.util.regex.Matcher;
import java.util.regex.Pattern;

/** Rules of ../shared/LANGUAGE.md that can be seen in the text of the program. */
public final class RulesTest {
    private static final String[] RULED_OUT = {
        "->", "::", "\\btry\\b", "\\bcatch\\b", "\\bfinally\\b", "\\bsynchronized\\b",
        "\\bassert\\b", "\\bwhile\\b", "\\bObject\\b", "\\bSystem\\.(?!arraycopy)", "\\bThread\\b",
        "\\bdouble\\b", "\\bMath\\.\\w*Exact", "\\b(equals|hashCode|toString)\\b", "\\bpackage\\b",
        "\\binterface\\b", "\\bprotected\\b", "\"\\s*\\+|\\+\\s*\"", "[^\\x00-\\x7f]"};

    private RulesTest() { }

    public static void main(String[] args) throws IOException {
        Checks checks = new Checks();
        checks.about("the rules of the language");
        String text = Files.readString(Path.of("src/main/java/Tableaufloor.java"));
        String code = text.replaceAll("(?s)/\\*.*?\\*/", "").replaceAll("//[^\n]*", "");
        for (String pattern : RULED_OUT) {
            checks.isTrue(pattern, !Pattern.compile(pattern).matcher(code).find());
        }
        Matcher imports = Pattern.compile("import [^\n]*").matcher(code);
        while (imports.find()) {
            checks.due("import java.util.NoSuchElementException;", imports.group());
        }
        Matcher thrown = Pattern.compile("throw [^\n]*").matcher(code);
        while (thrown.find()) {
            checks.isTrue(thrown.group(), thrown.group().matches("throw new (IllegalState"
                    + "|IllegalArgument|IndexOutOfBounds|UnsupportedOperation|NoSuchElement"
                    + ")Exception\\(\"[ -~]*\"\\);"));
        }
        checkNewObjects(checks, code);
        checkLines(checks, text);
        checks.end("RulesTest");
    }

    /** Objects and arrays are made in fields and constructors only, all others are thrown. */
    private static void checkNewObjects(Checks checks, String code) {
        for (String line : code.split("\n")) {
            boolean makes = line.contains(" new ") && !line.contains("throw new ");
            boolean isField = line.trim().startsWith("private final ");
            boolean isOfConstructor = line.startsWith("        ") && line.matches(
                    " {8}(    snapshots\\[i\\]|[a-zA-Z]+) = new [A-Z].*");
            checks.isTrue(line, !makes || isField || isOfConstructor);
        }
    }

    /** A method has no blank lines inside, so that what stands between two of them is short. */
    private static void checkLines(Checks checks, String text) {
        int number = 0;
        int sinceBlank = 0;
        for (String line : text.split("\n")) {
            number++;
            sinceBlank = line.isBlank() ? 0 : sinceBlank + 1;
            checks.isTrue("line " + number + " is short", line.length() <= 100);
            checks.isTrue("no method is long at line " + number, sinceBlank <= 60);
        }
    }
}
