import java.io.IOException;
import java.lang.reflect.Constructor;
import java.lang.reflect.Executable;
import java.lang.reflect.Field;
import java.lang.reflect.Member;
import java.lang.reflect.Method;
import java.lang.reflect.Modifier;
import java.nio.file.Files;
import java.nio.file.Path;
import java.util.HashSet;
import java.util.Set;
import java.util.TreeSet;
import java.util.regex.Matcher;
import java.util.regex.Pattern;

/** Rules of ../shared/LANGUAGE.md that the class and its text show, and the face that ../shared/DOC.md tells. */
public final class LanguageTest {

    private static int wrong = 0;

    private static void fault(String what) {
        wrong++;
        System.out.println(what);
    }

    private static void mustLack(String text, String pattern) {
        Matcher m = Pattern.compile(pattern).matcher(text);
        if (m.find()) {
            fault("the class has " + m.group());
        }
    }

    private static void looksAtNames(String text) {
        Set<String> face = new HashSet<>();
        Matcher open = Pattern.compile("(?m)^    public \\w+ (\\w+)\\(").matcher(text);
        while (open.find()) {
            face.add(open.group(1));
        }
        if (face.size() != 39) {
            fault("the face has " + face.size() + " methods");
        }
        Matcher other = Pattern.compile("(?m)^ +(?:private |static |final )*(?:int|long|boolean|void) (\\w+)\\(")
                .matcher(text);
        while (other.find()) {
            if (face.contains(other.group(1))) {
                fault("a method of the program's own is called " + other.group(1));
            }
        }
    }

    private static void looksAtLengths(String text) {
        int begun = 0;
        String name = "";
        String[] lines = text.split("\n", -1);
        for (int i = 0; i < lines.length; i++) {
            if (lines[i].matches("^ {4}(?: {4})?[\\w ]+\\w\\(.*\\) \\{$")) {
                begun = i;
                name = lines[i].trim();
            }
            if (lines[i].matches("^ {4}(?: {4})?\\}$") && i - begun > 60 && !name.isEmpty()) {
                fault("too long: " + name);
            }
            if (lines[i].matches("^ {4}\\}$")) {
                name = "";
            }
        }
    }

    private static String typesOf(Executable e) {
        StringBuilder types = new StringBuilder();
        for (Class<?> type : e.getParameterTypes()) {
            types.append(types.length() == 0 ? "" : ", ").append(type.getSimpleName());
        }
        return e.getName() + "(" + types + ")";
    }

    /** What of the class is not private is the face that the document tells, neither more nor less. */
    private static void looksAtFace() throws IOException {
        Set<String> told = new TreeSet<>();
        String document = Files.readString(Path.of("..", "shared", "DOC.md"));
        Matcher line = Pattern.compile("(?m)^    public (.*);$").matcher(document);
        while (line.find()) {
            told.add(line.group(1).replaceAll("(int|long) \\w+([,)])", "$1$2"));
        }
        Set<String> there = new TreeSet<>();
        for (Constructor<?> c : CarriedHome.class.getDeclaredConstructors()) {
            there.add((Modifier.isPublic(c.getModifiers()) ? "" : "not public ") + typesOf(c));
        }
        for (Method m : CarriedHome.class.getDeclaredMethods()) {
            if (!isHidden(m)) {
                there.add((m.getModifiers() == Modifier.PUBLIC ? "" : "not only public ")
                        + m.getReturnType().getSimpleName() + " " + typesOf(m));
            }
        }
        for (Field f : CarriedHome.class.getDeclaredFields()) {
            if (!isHidden(f)) {
                there.add(f.getName());
            }
        }
        if (told.size() != 40 || !told.equals(there)) {
            fault("the face is " + there + ", due is " + told);
        }
    }

    private static boolean isHidden(Member m) {
        return Modifier.isPrivate(m.getModifiers()) || m.isSynthetic();
    }

    private static void looksAtClass(Class<?> type) {
        int fields = 0;
        for (Field f : type.getDeclaredFields()) {
            if (!Modifier.isStatic(f.getModifiers())) {
                fields++;
            } else if (!Modifier.isFinal(f.getModifiers())) {
                fault(type + " has " + f);
            }
        }
        if (fields > 20) {
            fault(type + " has " + fields + " fields");
        }
        for (Method m : type.getDeclaredMethods()) {
            if (m.getParameterCount() > 7) {
                fault(m + " has too many parameters");
            }
        }
        if (type.getEnclosingMethod() != null || type.isAnonymousClass()
                || type.isMemberClass() && !Modifier.isStatic(type.getModifiers())) {
            fault(type + " is not static");
        }
    }

    public static void main(String[] args) throws IOException {
        looksAtFace();
        looksAtClass(CarriedHome.class);
        Class<?>[] inside = CarriedHome.class.getDeclaredClasses();
        for (Class<?> type : inside) {
            looksAtClass(type);
        }
        if (inside.length > 11) {
            fault("there are " + inside.length + " classes inside");
        }
        Path file = Path.of("src/main/java/CarriedHome.java");
        String text = Files.readString(file).replaceAll("(?s)/\\*.*?\\*/", "").replaceAll("//[^\n]*", "");
        mustLack(text, "\\b(throw|throws|try|catch|finally|synchronized|assert|import|package|volatile)\\b");
        mustLack(text, "->|::|Exact|\\bdouble\\b|\\bfloat\\b|\\bvar\\b");
        mustLack(text, "\\b(equals|hashCode|toString)\\(");
        mustLack(text, "\\b(protected|public static|public int \\w+;)");
        mustLack(text, "\\b(?<!private static final )(?<!public final )class ");
        mustLack(text, "(?m)^    (?!private|public|static)\\w[^(=\n]*[=;(]");
        mustLack(text, "static (?!final )(?:int|long|boolean)(?:\\[\\])? \\w+ *[=;]");
        looksAtNames(text);
        looksAtLengths(text);
        System.out.println(wrong == 0 ? "the language is kept" : wrong + " rules are not kept");
        if (wrong != 0) {
            System.exit(1);
        }
    }
}
