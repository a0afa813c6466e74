import java.io.IOException;
import java.nio.file.Files;
import java.nio.file.Path;
import java.util.HashSet;
import java.util.Set;
import java.util.regex.Matcher;
import java.util.regex.Pattern;

/** Rules of ../shared/LANGUAGE.md that the text of the class shows. */
public final class LanguageTest {

    private static int wrong = 0;

    private static void fault(String what) {
        wrong++;
        System.out.println(what);
    }

    private static void mustLack(String text, String pattern) {
        Matcher m = Pattern.compile(pattern).matcher(text);
        if (m.find()) {
            fault("the class has " + m.group());
        }
    }

    private static void looksAtNames(String text) {
        Set<String> face = new HashSet<>();
        Matcher open = Pattern.compile("(?m)^    public \\w+ (\\w+)\\(").matcher(text);
        while (open.find()) {
            face.add(open.group(1));
        }
        if (face.size() != 39) {
            fault("the face has " + face.size() + " methods");
        }
        Matcher other = Pattern.compile("(?m)^ +(?:private |static |final )*(?:int|long|boolean|void) (\\w+)\\(")
                .matcher(text);
        while (other.find()) {
            if (face.contains(other.group(1))) {
                fault("a method of the program's own is called " + other.group(1));
            }
        }
    }

    private static void looksAtLengths(String text) {
        int begun = 0;
        String name = "";
        String[] lines = text.split("\n", -1);
        for (int i = 0; i < lines.length; i++) {
            if (lines[i].matches("^ {4}(?: {4})?[\\w ]+\\w\\(.*\\) \\{$")) {
                begun = i;
                name = lines[i].trim();
            }
            if (lines[i].matches("^ {4}(?: {4})?\\}$") && i - begun > 60 && !name.isEmpty()) {
                fault("too long: " + name);
            }
            if (lines[i].matches("^ {4}\\}$")) {
                name = "";
            }
        }
    }

    public static void main(String[] args) throws IOException {
        Path file = Path.of("src/main/java/CarriedHome.java");
        String text = Files.readString(file).replaceAll("(?s)/\\*.*?\\*/", "").replaceAll("//[^\n]*", "");
        mustLack(text, "\\b(throw|throws|try|catch|finally|synchronized|assert|import|package|volatile)\\b");
        mustLack(text, "->|::|Exact|\\bdouble\\b|\\bfloat\\b|\\bvar\\b");
        mustLack(text, "\\b(equals|hashCode|toString)\\(");
        mustLack(text, "\\b(protected|public static|public int \\w+;)");
        mustLack(text, "\\b(?<!private static final )(?<!public final )class ");
        mustLack(text, "(?m)^    (?!private|public|static)\\w[^(=\n]*[=;(]");
        mustLack(text, "static (?!final )(?:int|long|boolean)(?:\\[\\])? \\w+ *[=;]");
        looksAtNames(text);
        looksAtLengths(text);
        System.out.println(wrong == 0 ? "the language is kept" : wrong + " rules are not kept");
        if (wrong != 0) {
            System.exit(1);
        }
    }
}
