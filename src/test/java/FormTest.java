import java.nio.charset.StandardCharsets;
import java.nio.file.Files;
import java.nio.file.Path;
import java.util.ArrayList;
import java.util.List;
import java.util.Set;
import java.util.regex.Matcher;
import java.util.regex.Pattern;

/** The rules of ../shared/LANGUAGE.md that can be seen by the words of the file; run in the project's own directory. */
public final class FormTest extends Checks {
    private static final Path FILE = Path.of("src/main/java/SealedGroups.java");
    private static final Pattern WORD = Pattern.compile("[A-Za-z_]\\w*");
    private static final Pattern METHOD = Pattern.compile("^ {4,8}(?! )[^=;]*\\b\\w+\\((.*)\\) \\{$");

    public static void main(String[] args) {
        runAll(FormTest.class);
    }

    private static String read(Path file) throws Exception {
        return Files.readString(file, StandardCharsets.ISO_8859_1);
    }

    /** The source without its comments and its signs in quotes. */
    private static String codeOf(Path file) throws Exception {
        String plain = read(file).replaceAll("(?s)/\\*.*?\\*/", " ").replaceAll("//[^\n]*", " ");
        return plain.replaceAll("'[^']*'", "0");
    }

    // 4: "constants, whose signs are 1 to 127"
    static void theFileIsAscii() throws Exception {
        String source = read(FILE);
        for (int i = 0; i < source.length(); i++) {
            due("sign at " + i + " below 128", source.charAt(i) < 128, true);
        }
    }

    // 2 and 6: no lambda, no method reference; no throw, try, catch, synchronized, assert
    static void noWordIsThereThatTheRulesForbid() throws Exception {
        String code = codeOf(FILE);
        Set<String> forbidden = Set.of("throw", "throws", "try", "catch", "finally", "synchronized", "assert", "import",
                "package", "protected", "volatile", "transient", "native", "var", "yield", "Object", "equals", "hashCode",
                "toString", "Exception");
        for (Matcher word = WORD.matcher(code); word.find();) {
            due("forbidden " + word.group(), forbidden.contains(word.group()), false);
        }
        due("lambda", code.contains("->"), false);
        due("method reference", code.contains("::"), false);
        due("static initialiser", Pattern.compile("static\\s*\\{").matcher(code).find(), false);
    }

    // 4: "The library: only what stands here."
    static void ofTheLibraryOnlyWhatIsListedIsUsed() throws Exception {
        Set<String> used = Set.of("System.arraycopy", "Math.max", "Math.min", "Math.floorMod", "Integer.bitCount");
        for (Matcher call = Pattern.compile("\\b[A-Z]\\w*\\.\\w+").matcher(codeOf(FILE)); call.find();) {
            due("of the library " + call.group(), used.contains(call.group()), true);
        }
    }

    // 5: "Static fields are final: constants"
    static void eachStaticFieldIsFinal() throws Exception {
        for (String line : codeOf(FILE).split("\n")) {
            boolean field = line.contains("static ") && line.strip().endsWith(";");
            due(line.strip() + " is final", !field || line.contains(" static final "), true);
        }
    }

    // 11: "A method takes at most seven parameters. Methods stay short (some sixty lines)"
    static void methodsAreShortAndTakeFewParameters() throws Exception {
        List<String> lines = new ArrayList<>(List.of(codeOf(FILE).split("\n")));
        int methods = 0;
        for (int i = 0; i < lines.size(); i++) {
            Matcher method = METHOD.matcher(lines.get(i));
            if (!method.matches()) {
                continue;
            }
            methods++;
            int length = lengthFrom(lines, i);
            due("parameters of " + lines.get(i), method.group(1).split(",").length <= 7, true);
            due("at most 60 lines of " + lines.get(i), length > 0 && length <= 60, true);
        }
        due("methods are seen", methods > 22, true);
    }

    /** How many lines there are up to the bracket that stands below the first sign of the line; 0 if there is none. */
    private static int lengthFrom(List<String> lines, int start) {
        String first = lines.get(start);
        String end = " ".repeat(first.length() - first.stripLeading().length()) + "}";
        int at = lines.subList(start, lines.size()).indexOf(end);
        return at + 1;
    }

    // 11: "the file has at most some twelve classes"
    static void thereAreFewClasses() throws Exception {
        int classes = 0;
        for (Matcher word = Pattern.compile("\\bclass \\w+ \\{").matcher(codeOf(FILE)); word.find();) {
            classes++;
        }
        due("classes", classes >= 1 && classes <= 12, true);
    }
}
