import java.io.IOException;
import java.lang.reflect.Field;
import java.lang.reflect.Method;
import java.lang.reflect.Modifier;
import java.nio.charset.StandardCharsets;
import java.nio.file.Files;
import java.nio.file.Path;
import java.util.ArrayList;
import java.util.HashSet;
import java.util.List;
import java.util.Set;
import java.util.regex.Matcher;
import java.util.regex.Pattern;

/** What of ../shared/LANGUAGE.md can be seen in the text of the program; run from the project's directory. */
public final class RulesTest {
    private static final int MOST_LINES = 60;
    private static final int MOST_LEVELS = 8;
    private static final int MOST_CLASSES = 12;
    private static final int MOST_FIELDS = 20;
    private static final int MOST_PARAMETERS = 7;
    private static final Pattern THROW = Pattern.compile("throw new (IllegalState|IllegalArgument|IndexOutOfBounds"
            + "|Arithmetic|UnsupportedOperation|NoSuchElement|Runtime)Exception\\(\"\"\\);");

    private static final String[] NOT_ALLOWED = {
        "->", "::", "\\bcatch\\b", "\\bfinally\\b", "\\bsynchronized\\b", "\\bassert\\b", "\\bvar\\b", "\\bpackage\\b",
        "Exact\\(", "\\bSystem\\.(?!arraycopy)", "\\bString\\.", "\"\\s*\\+", "\\+\\s*\"", "\\bObject\\b",
        "\\bprotected\\b", "\\bMath\\.(?!max|min|abs|floorDiv|floorMod)", "\\bnative\\b", "\\bgetMessage\\b",
        "\\b(equals|hashCode|toString)\\(",
    };

    public static void main(String[] args) throws IOException {
        Check check = new Check();
        check.theme("rules");
        String source = Files.readString(Path.of("src/main/java/CampsiteBooker.java"), StandardCharsets.UTF_8);
        String code = source.replaceAll("(?s)/\\*.*?\\*/", " ").replaceAll("//[^\n]*", " ")
                .replaceAll("\"[^\"\n]*\"", "\"\"").replaceAll("'.'", "' '");
        for (String pattern : NOT_ALLOWED) {
            Matcher found = Pattern.compile(pattern).matcher(code);
            check.same(pattern, "nothing", found.find() ? found.group() : "nothing");
        }
        Matcher imports = Pattern.compile("import ([^;]*);").matcher(code);
        while (imports.find()) {
            check.same("import", "java.util.NoSuchElementException", imports.group(1));
        }
        for (char c : source.toCharArray()) {
            if (c > 126 || c < 10) {
                check.is("a sign of the text", ' ', c);
            }
        }
        exceptions(check, code);
        Methods methods = new Methods(code);
        methods(check, methods);
        found(check, methods);
        sizes(check);
        check.end();
    }

    private static void exceptions(Check check, String code) {
        Matcher thrown = Pattern.compile("\\bthrow\\b").matcher(code);
        int throwsInAll = 0;
        while (thrown.find()) {
            throwsInAll++;
        }
        Matcher allowed = THROW.matcher(code);
        int allowedOnes = 0;
        while (allowed.find()) {
            allowedOnes++;
        }
        check.is("exceptions that may be thrown", throwsInAll, allowedOnes);
    }

    private static void sizes(Check check) {
        Class<?>[] inside = CampsiteBooker.class.getDeclaredClasses();
        check.is("few classes", 1, inside.length + 1 <= MOST_CLASSES ? 1 : 0);
        sizes(check, CampsiteBooker.class);
        for (Class<?> type : inside) {
            sizes(check, type);
        }
    }

    private static void sizes(Check check, Class<?> type) {
        int fields = 0;
        for (Field field : type.getDeclaredFields()) {
            boolean isStatic = Modifier.isStatic(field.getModifiers());
            fields += isStatic ? 0 : 1;
            check.is("a constant " + field, 1, !isStatic || Modifier.isFinal(field.getModifiers()) ? 1 : 0);
        }
        check.is("few fields in " + type, 1, fields <= MOST_FIELDS ? 1 : 0);
        for (Method method : type.getDeclaredMethods()) {
            check.is("few parameters of " + method, 1, method.getParameterCount() <= MOST_PARAMETERS ? 1 : 0);
        }
    }

    private static void methods(Check check, Methods methods) {
        Set<String> face = new HashSet<>();
        for (Method method : CampsiteBooker.class.getDeclaredMethods()) {
            if (Modifier.isPublic(method.getModifiers())) {
                face.add(method.getName());
            }
        }
        for (Methods.Method method : methods.all()) {
            String title = method.title();
            check.is("a short method " + title, 1, method.lines <= MOST_LINES ? 1 : 0);
            check.same("calls in " + title, "few", methods.depth(method) <= MOST_LEVELS ? "few" : "many");
            boolean isOwn = method.type.equals("CampsiteBooker") || !face.contains(method.name);
            check.is("own name of " + title, 1, isOwn ? 1 : 0);
            boolean isMaking = method.body.replaceAll("throw new", "").matches("(?s).*\\bnew\\b.*");
            check.is("an object made in " + title, 1, method.isConstructor() || !isMaking ? 1 : 0);
        }
    }

    /** Each method of the class is among those that are found in the text. */
    private static void found(Check check, Methods methods) {
        int declared = 0;
        List<Class<?>> types = new ArrayList<>(List.of(CampsiteBooker.class.getDeclaredClasses()));
        types.add(CampsiteBooker.class);
        for (Class<?> type : types) {
            for (Method method : type.getDeclaredMethods()) {
                declared += method.isSynthetic() ? 0 : 1;
            }
        }
        int seen = 0;
        for (Methods.Method method : methods.all()) {
            seen += method.isConstructor() ? 0 : 1;
        }
        check.is("methods in the text", declared, seen);
    }
}
