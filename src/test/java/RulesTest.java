import java.io.IOException;
import java.lang.reflect.Field;
import java.lang.reflect.Method;
import java.lang.reflect.Modifier;
import java.nio.charset.StandardCharsets;
import java.nio.file.Files;
import java.nio.file.Path;
import java.util.regex.Matcher;
import java.util.regex.Pattern;

/** What of ../shared/LANGUAGE.md can be seen in the text of the program; run from the project's directory. */
public final class RulesTest {
    private static final int MOST_LINES = 60;
    private static final int MOST_CLASSES = 12;
    private static final int MOST_FIELDS = 20;
    private static final int MOST_PARAMETERS = 7;
    private static final Pattern THROW = Pattern.compile("throw new (IllegalState|IllegalArgument|IndexOutOfBounds"
            + "|Arithmetic|UnsupportedOperation|NoSuchElement|Runtime)Exception\\(\"\"\\);");

    private static final String[] NOT_ALLOWED = {
        "->", "::", "\\bcatch\\b", "\\bfinally\\b", "\\bsynchronized\\b", "\\bassert\\b", "\\bvar\\b", "\\bpackage\\b",
        "Exact\\(", "\\bSystem\\.(?!arraycopy)", "\\bString\\.", "\"\\s*\\+", "\\+\\s*\"", "\\bObject\\b",
        "\\bprotected\\b", "\\bMath\\.(?!max|min|abs|floorDiv|floorMod)", "\\bnative\\b", "\\bgetMessage\\b",
        "\\b(equals|hashCode|toString)\\(",
    };

    public static void main(String[] args) throws IOException {
        Check check = new Check();
        check.theme("rules");
        String source = Files.readString(Path.of("src/main/java/CampsiteBooker.java"), StandardCharsets.UTF_8);
        String code = source.replaceAll("(?s)/\\*.*?\\*/", " ").replaceAll("//[^\n]*", " ")
                .replaceAll("\"[^\"\n]*\"", "\"\"").replaceAll("'.'", "' '");
        for (String pattern : NOT_ALLOWED) {
            Matcher found = Pattern.compile(pattern).matcher(code);
            check.same(pattern, "nothing", found.find() ? found.group() : "nothing");
        }
        Matcher imports = Pattern.compile("import ([^;]*);").matcher(code);
        while (imports.find()) {
            check.same("import", "java.util.NoSuchElementException", imports.group(1));
        }
        for (char c : source.toCharArray()) {
            if (c > 126 || c < 10) {
                check.is("a sign of the text", ' ', c);
            }
        }
        exceptions(check, code);
        methodLengths(check, source);
        sizes(check);
        check.end();
    }

    private static void exceptions(Check check, String code) {
        Matcher thrown = Pattern.compile("\\bthrow\\b").matcher(code);
        int throwsInAll = 0;
        while (thrown.find()) {
            throwsInAll++;
        }
        Matcher allowed = THROW.matcher(code);
        int allowedOnes = 0;
        while (allowed.find()) {
            allowedOnes++;
        }
        check.is("exceptions that may be thrown", throwsInAll, allowedOnes);
    }

    private static void sizes(Check check) {
        Class<?>[] inside = CampsiteBooker.class.getDeclaredClasses();
        check.is("few classes", 1, inside.length + 1 <= MOST_CLASSES ? 1 : 0);
        sizes(check, CampsiteBooker.class);
        for (Class<?> type : inside) {
            sizes(check, type);
        }
    }

    private static void sizes(Check check, Class<?> type) {
        int fields = 0;
        for (Field field : type.getDeclaredFields()) {
            boolean isStatic = Modifier.isStatic(field.getModifiers());
            fields += isStatic ? 0 : 1;
            check.is("a constant " + field, 1, !isStatic || Modifier.isFinal(field.getModifiers()) ? 1 : 0);
        }
        check.is("few fields in " + type, 1, fields <= MOST_FIELDS ? 1 : 0);
        for (Method method : type.getDeclaredMethods()) {
            check.is("few parameters of " + method, 1, method.getParameterCount() <= MOST_PARAMETERS ? 1 : 0);
        }
    }

    /** A method ends with the first brace that stands as far in as its head. */
    private static void methodLengths(Check check, String source) {
        String[] lines = source.split("\n");
        Pattern head = Pattern.compile("^( +)(?!return|throw|new|else|switch)[\\w\\[\\]<> ]+\\(.*");
        for (int i = 0; i < lines.length; i++) {
            Matcher m = head.matcher(lines[i]);
            int indent = m.matches() ? m.group(1).length() : 0;
            if (indent == 4 || indent == 8) {
                int end = i;
                while (end < lines.length && !lines[end].equals(" ".repeat(indent) + "}")) {
                    end++;
                }
                boolean isShort = end - i < MOST_LINES || !lines[i].endsWith("{");
                check.is("a short method at line " + (i + 1), 1, isShort ? 1 : 0);
            }
        }
    }
}
