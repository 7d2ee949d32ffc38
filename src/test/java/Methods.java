import java.util.ArrayList;
import java.util.List;
import java.util.regex.Matcher;
import java.util.regex.Pattern;

/** The methods and constructors of the program, as its text shows them. */
final class Methods {
    /** More levels than can be allowed; so many are told of a recursion. */
    static final int ENDLESS = 1000;

    private static final Pattern TYPE = Pattern.compile("^ *(?:\\w+ )*class (\\w+) \\{$");
    private static final Pattern HEAD = Pattern.compile("^( {4}| {8})(?:[\\w\\[\\]]+ )*(\\w+)\\(.*");
    private static final Pattern CALL = Pattern.compile("(\\.?)\\b(\\w+)\\(");

    static final class Method {
        String type;
        String name;
        String body;
        int lines;

        boolean isConstructor() {
            return name.equals(type);
        }

        String title() {
            return type + "." + name;
        }
    }

    private final List<Method> all = new ArrayList<>();

    /** The code is without comments and texts. */
    Methods(String code) {
        String[] lines = code.split("\n");
        String type = "";
        for (int i = 0; i < lines.length; i++) {
            Matcher named = TYPE.matcher(lines[i]);
            type = named.matches() ? named.group(1) : type;
            Matcher head = HEAD.matcher(lines[i]);
            if (head.matches() && !lines[i].endsWith(";") && !lines[i].strip().startsWith("return ")) {
                i = add(type, head, lines, i);
            }
        }
    }

    /** A method ends with the first brace that stands as far in as its head. */
    private int add(String type, Matcher head, String[] lines, int first) {
        Method method = new Method();
        method.type = type;
        method.name = head.group(2);
        StringBuilder body = new StringBuilder();
        int i = first;
        while (!lines[i].equals(head.group(1) + "}")) {
            body.append(i == first ? "" : lines[i]).append('\n');
            i++;
        }
        method.body = body.toString();
        method.lines = i - first + 1;
        all.add(method);
        return i;
    }

    List<Method> all() {
        return all;
    }

    /** How many calls stand open at most when this method is called, itself counted. */
    int depth(Method method) {
        return depth(method, new ArrayList<>());
    }

    private int depth(Method method, List<Method> open) {
        if (open.contains(method)) {
            return ENDLESS;
        }
        open.add(method);
        int deepest = 0;
        Matcher call = CALL.matcher(method.body);
        while (call.find()) {
            for (Method called : all) {
                if (called.name.equals(call.group(2)) && isCalled(method, called, !call.group(1).isEmpty())) {
                    deepest = Math.max(deepest, depth(called, open));
                }
            }
        }
        open.remove(method);
        return deepest + 1;
    }

    /** A method of the same name that another object has is taken for one of another class. */
    private static boolean isCalled(Method from, Method to, boolean isOfAnother) {
        return !isOfAnother || from != to;
    }
}
