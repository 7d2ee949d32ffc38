import java.lang.reflect.Constructor;
import java.lang.reflect.Field;
import java.lang.reflect.Method;
import java.lang.reflect.Modifier;
import java.util.ArrayList;
import java.util.Collections;
import java.util.List;

/** The class has the document's face, and no more of it. */
public final class FaceTest {
    private static final String[] FACE = {
        "int account(int)", "int addPitch(int,int,int,int)", "int addSeason(int,int,int)", "int advance(int)",
        "int book(int,int,int,int,int,int)", "int busyNight(int,int)", "int cancel(int)", "int dropSeason(int)",
        "int faultPosition()", "int firstFree(int,int,int)", "int gap(int,int,boolean)", "int leastStay(int,int)",
        "int move(int,int)", "int moveOf(int,int)", "int moves()", "int obstacle(int,int)", "int occupant(int,int)",
        "int party(int,int)", "int peak(int)", "int pitch(int,int)", "int power(int,int)", "int readBooking()",
        "int refusal()", "int season(int,int)", "int setGap(int)", "int setLimit(int,int)", "int setRate(int,int)",
        "int tonight()", "int undo()", "double share()", "void append(char)", "void restore()", "void save()",
    };

    public static void main(String[] args) {
        Check check = new Check();
        check.theme("face");
        Class<?> type = CampsiteBooker.class;
        check.is("public and final", Modifier.PUBLIC | Modifier.FINAL, type.getModifiers());
        check.is("constructors", 1, type.getDeclaredConstructors().length);
        for (Constructor<?> made : type.getDeclaredConstructors()) {
            check.same("constructor", "public CampsiteBooker()", made.toString());
        }
        for (Field field : type.getDeclaredFields()) {
            check.is("private field " + field.getName(), 1, Modifier.isPrivate(field.getModifiers()) ? 1 : 0);
            boolean isStatic = Modifier.isStatic(field.getModifiers());
            check.is("static is final: " + field.getName(), 1,
                    !isStatic || Modifier.isFinal(field.getModifiers()) ? 1 : 0);
        }
        methods(check, type);
        for (Class<?> inside : type.getDeclaredClasses()) {
            boolean isHidden = Modifier.isPrivate(inside.getModifiers());
            check.is("private and static class " + inside.getName(), 1,
                    isHidden && Modifier.isStatic(inside.getModifiers()) ? 1 : 0);
        }
        check.end();
    }

    private static void methods(Check check, Class<?> type) {
        List<String> names = new ArrayList<>();
        List<String> due = new ArrayList<>(List.of(FACE));
        List<String> found = new ArrayList<>();
        for (String line : FACE) {
            names.add(line.substring(line.indexOf(' ') + 1, line.indexOf('(')));
        }
        for (Method method : type.getDeclaredMethods()) {
            if (Modifier.isPrivate(method.getModifiers())) {
                check.is("own name of " + method, 0, names.contains(method.getName()) ? 1 : 0);
            } else {
                check.is("public " + method, 1, Modifier.isPublic(method.getModifiers()) ? 1 : 0);
                found.add(line(method));
            }
        }
        Collections.sort(due);
        Collections.sort(found);
        check.same("methods", due.toString(), found.toString());
    }

    private static String line(Method method) {
        StringBuilder line = new StringBuilder();
        line.append(method.getReturnType().getName()).append(' ').append(method.getName()).append('(');
        for (Class<?> part : method.getParameterTypes()) {
            line.append(line.charAt(line.length() - 1) == '(' ? "" : ",").append(part.getName());
        }
        return line.append(')').toString();
    }
}
