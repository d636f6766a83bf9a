import java.nio.file.Files;
import java.nio.file.Path;
import java.util.List;
import java.util.Set;
import java.util.regex.Matcher;
import java.util.regex.Pattern;

/**
 * What of ../shared/LANGUAGE.md a look at the text can tell: words and signs that it rules out,
 * names of the library that it does not list, methods that are too long. Run from the root.
 */
public final class LanguageTest {
    private static final String SOURCE = "src/main/java/RivetedSisters.java";
    private static final int LONGEST_METHOD = 60;

    private static final List<String> RULED_OUT = List.of("throw", "throws", "try", "catch",
        "finally", "synchronized", "assert", "package", "protected", "volatile", "transient",
        "native", "strictfp", "import", "var", "instanceof", "float", "double", "Object",
        "equals", "hashCode", "toString", "String", "Integer\\.valueOf", "\\w+Exact", "->", "::");

    private static final Set<String> LIBRARY = Set.of("Math.abs", "Math.min", "Math.max",
        "Integer.bitCount", "Long.bitCount", "System.arraycopy");

    private static int wrong = 0;

    private static void must(boolean so, String what) {
        if (!so) {
            wrong++;
            System.out.println(SOURCE + ": " + what);
        }
    }

    private static String withoutComments(String text) {
        return text.replaceAll("(?s)/\\*.*?\\*/", "").replaceAll("//[^\n]*", "");
    }

    private static void words(String code) {
        for (String word : RULED_OUT) {
            String whole = word.matches("\\W+") ? word : "\\b" + word + "\\b";
            must(!Pattern.compile(whole).matcher(code).find(), word + " is ruled out");
        }
        Matcher names = Pattern.compile("\\b(Math|Integer|Long|System|Arrays)\\.\\w+").matcher(code);
        while (names.find()) {
            must(LIBRARY.contains(names.group()), names.group() + " is not listed here");
        }
        Matcher statics = Pattern.compile("static (?!final )[^({;]*[;=]").matcher(code);
        must(!statics.find(), "a static field is not final");
        must(!Pattern.compile("static\\s*\\{").matcher(code).find(), "a static initialiser");
    }

    private static void lengths(List<String> lines) {
        int start = 0;
        for (int i = 0; i < lines.size(); i++) {
            String line = lines.get(i);
            if (line.matches("( {4}| {8})(?! |class|private static final class).*\\) \\{")) {
                start = i;
            }
            if (line.matches(" {4}\\}| {8}\\}")) {
                must(i - start < LONGEST_METHOD, "line " + (start + 1) + " begins a long method");
            }
            must(line.length() <= 100, "line " + (i + 1) + " is long");
            for (char sign : line.toCharArray()) {
                must(sign < 128, "line " + (i + 1) + " has a sign above 127");
            }
        }
    }

    private static void parameters(String code) {
        Matcher lists = Pattern.compile("\\w+ \\w+\\(([^()]*)\\) \\{").matcher(code);
        while (lists.find()) {
            must(lists.group(1).split(",").length <= 7, lists.group() + " takes too many");
        }
    }

    public static void main(String[] args) throws Exception {
        Path path = Path.of(SOURCE);
        String code = withoutComments(Files.readString(path));
        words(code);
        parameters(code);
        lengths(Files.readAllLines(path).stream().filter(l -> !l.contains("class ")).toList());
        System.out.println(wrong == 0 ? "the text keeps to the rules" : wrong + " rules broken");
        if (wrong != 0) {
            System.exit(1);
        }
    }
}
