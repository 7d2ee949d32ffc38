import java.io.IOException;
import java.lang.reflect.Constructor;
import java.lang.reflect.Executable;
import java.lang.reflect.Field;
import java.lang.reflect.Method;
import java.lang.reflect.Modifier;
import java.util.ArrayList;
import java.util.Collections;
import java.util.List;

/** The class has the document's face, and no more of it; run from the project's directory. */
public final class FaceTest {
    public static void main(String[] args) throws IOException {
        Check check = new Check();
        check.theme("face");
        Class<?> type = CampsiteBooker.class;
        check.is("public and final", Modifier.PUBLIC | Modifier.FINAL, type.getModifiers());
        members(check, type, Document.read().face());
        for (Field field : type.getDeclaredFields()) {
            int modifiers = field.getModifiers();
            check.is("private field " + field.getName(), 1, Modifier.isPrivate(modifiers) ? 1 : 0);
            check.is("static is final: " + field.getName(), 1,
                    !Modifier.isStatic(modifiers) || Modifier.isFinal(modifiers) ? 1 : 0);
        }
        for (Class<?> inside : type.getDeclaredClasses()) {
            int modifiers = inside.getModifiers();
            check.is("private and static class " + inside.getName(), 1,
                    Modifier.isPrivate(modifiers) && Modifier.isStatic(modifiers) ? 1 : 0);
        }
        check.end();
    }

    private static void members(Check check, Class<?> type, List<String> face) {
        List<String> found = new ArrayList<>();
        for (Constructor<?> made : type.getDeclaredConstructors()) {
            found.add(line(made, type.getSimpleName()));
        }
        for (Method method : type.getDeclaredMethods()) {
            String result = method.getReturnType().getName();
            if (Modifier.isPrivate(method.getModifiers())) {
                boolean isOwn = face.stream().noneMatch(line -> line.contains(" " + method.getName() + "("));
                check.is("own name of " + method, 1, isOwn ? 1 : 0);
            } else {
                found.add(line(method, result + " " + method.getName()));
            }
        }
        Collections.sort(face);
        Collections.sort(found);
        check.is("lines of the document's face", 34, face.size());
        check.same("members", String.join("\n", face), String.join("\n", found));
    }

    /** A member as the document writes it, without the names of its parameters. */
    private static String line(Executable member, String head) {
        StringBuilder line = new StringBuilder(Modifier.toString(member.getModifiers()));
        line.append(' ').append(head).append('(');
        String separator = "";
        for (Class<?> parameter : member.getParameterTypes()) {
            line.append(separator).append(parameter.getName());
            separator = ", ";
        }
        line.append(')');
        separator = " throws ";
        for (Class<?> thrown : member.getExceptionTypes()) {
            line.append(separator).append(thrown.getSimpleName());
            separator = ", ";
        }
        return line.toString();
    }
}
