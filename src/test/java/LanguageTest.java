import java.io.IOException;
import java.lang.reflect.Field;
import java.lang.reflect.Modifier;
import java.nio.charset.StandardCharsets;
import java.nio.file.Files;
import java.nio.file.Path;
import java.util.List;
import java.util.Set;
import java.util.regex.Matcher;
import java.util.regex.Pattern;

/** Rules of LANGUAGE.md that can be seen in the text of the class; .ci/run starts it where the project is. */
public final class LanguageTest {
    private static final String[] NEVER = {"->", "::", "\\btry\\b", "\\bcatch\\b", "\\bfinally\\b", "\\bsynchronized\\b",
        "\\bassert\\b", "\\bpackage\\b", "\\bprotected\\b", "Exact\\(", "Object", "\\bSystem\\.(?!arraycopy\\()", "static \\{",
        "\\bRandom\\b", "\\bThread\\b", "getMessage", "hashCode", "toString", "\" \\+", "\\+ \""};
    private static final String MAY_BE_THROWN = "IllegalStateException|IllegalArgumentException|IndexOutOfBoundsException"
        + "|ArithmeticException|UnsupportedOperationException|NoSuchElementException|RuntimeException";

    private static final Pattern LIBRARY =
        Pattern.compile("\\b(Integer|Long|Math|Arrays|System|String|Character|Byte|Boolean|Double)\\.\\w+");
    private static final Set<String> MAY_BE_USED = Set.of("Integer.bitCount", "Long.bitCount", "Math.max", "Math.min",
        "Math.abs", "Arrays.fill", "System.arraycopy");

    public static void main(String[] args) throws IOException {
        Checks checks = new Checks("LanguageTest");
        String source = Files.readString(Path.of("src/main/java/LaneEyes.java"), StandardCharsets.ISO_8859_1);
        String code = source.replaceAll("(?s)/\\*.*?\\*/", "").replaceAll("//[^\n]*", "");
        for (String pattern : NEVER) {
            checks.due("no " + pattern, false, Pattern.compile(pattern).matcher(code).find());
        }
        checks.due("signs are 1 to 127", true, source.chars().allMatch(sign -> sign >= 1 && sign <= 127));
        Matcher imported = Pattern.compile("import ([^;]*);").matcher(code);
        while (imported.find()) {
            checks.due("import " + imported.group(1), true,
                List.of("java.util.Arrays", "java.util.NoSuchElementException").contains(imported.group(1)));
        }
        Matcher thrown = Pattern.compile("throw ([^;]*);").matcher(code);
        while (thrown.find()) {
            checks.due("throw " + thrown.group(1), true,
                thrown.group(1).matches("new (" + MAY_BE_THROWN + ")\\((\"[^\"]*\")?\\)"));
        }
        Matcher fields = Pattern.compile("\\bstatic (?!final )(?!int |boolean )[^(;{]*[;=]").matcher(code);
        checks.due("static fields are final", false, fields.find());
        Matcher used = LIBRARY.matcher(code);
        while (used.find()) {
            checks.due("library: " + used.group(), true, MAY_BE_USED.contains(used.group()));
        }
        methods(checks, code.split("\n"));
        classes(checks);
        checks.end();
    }

    private static void classes(Checks checks) {
        Class<?>[] inside = LaneEyes.class.getDeclaredClasses();
        checks.due("some twelve classes", true, inside.length + 1 <= 12);
        fields(checks, LaneEyes.class);
        for (Class<?> one : inside) {
            checks.due(one + " is static", true, Modifier.isStatic(one.getModifiers()));
            fields(checks, one);
        }
    }

    private static void fields(Checks checks, Class<?> of) {
        int own = 0;
        for (Field field : of.getDeclaredFields()) {
            if (!Modifier.isStatic(field.getModifiers())) {
                own++;
            } else {
                checks.due(field + " is final", true, Modifier.isFinal(field.getModifiers()));
            }
        }
        checks.due(of + " has some twenty fields", true, own <= 20);
    }

    private static void methods(Checks checks, String[] lines) {
        Pattern head = Pattern.compile("^( +)(?:[\\w\\[\\]]+ )+(\\w+)\\(([^)]*)\\)[^;={]*\\{$");
        for (int i = 0; i < lines.length; i++) {
            Matcher method = head.matcher(lines[i]);
            if (method.matches() && !lines[i].contains("else") && !lines[i].contains("return")) {
                int end = i;
                while (end < lines.length && !lines[end].equals(method.group(1) + "}")) {
                    end++;
                }
                checks.due(method.group(2) + " is short", true, end - i <= 60);
                checks.due(method.group(2) + " has few parameters", true, method.group(3).split(",").length <= 7);
            }
        }
    }
}
