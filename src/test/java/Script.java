import java.lang.reflect.InvocationTargetException;
import java.lang.reflect.Method;
import java.util.ArrayList;
import java.util.List;

/**
 * Runs calls on a new object, written as the document writes its examples: "join(0, 1, 2) = 0; take(0) = throws X".
 * Besides the calls of the face: type("ab") appends the characters and answers the last length; say("ab") does that and
 * calls commands; written() writes the line and answers its characters; reasons() answers the three numbers of the
 * reason; accounts() the twelve accounts; seat(k) the ten numbers of a seat; each of these answers a text in "".
 * The result "refused 2 8 0" stands for "throws UnsupportedOperationException" and these numbers of the reason.
 */
final class Script {
    private static int wrong = 0;
    private static int checked = 0;

    private final SoupTable table = new SoupTable();
    private final String title;

    private Script(String title) {
        this.title = title;
    }

    static void check(String title, String... calls) {
        Script script = new Script(title);
        for (String row : calls) {
            for (String call : split(row, ';')) {
                script.call(call);
            }
        }
    }

    static void same(String title, Object got, Object due) {
        checked++;
        if (!String.valueOf(got).equals(String.valueOf(due))) {
            wrong++;
            System.out.println(title + ": answered " + got + ", due is " + due);
        }
    }

    static void end() {
        System.out.println(checked + " answers looked at, " + wrong + " wrong");
        if (wrong > 0 || checked == 0) {
            System.exit(1);
        }
    }

    private void call(String text) {
        int open = text.indexOf('(');
        int equals = text.lastIndexOf(") = ");
        if (open < 0 || equals < open) {
            throw new AssertionError(title + ": not a call with its result: " + text);
        }
        String name = text.substring(0, open);
        List<String> arguments = split(text.substring(open + 1, equals), ',');
        String answer = answer(name, arguments);
        boolean isRefused = answer.equals("throws UnsupportedOperationException");
        String due = text.substring(equals + 4);
        same(title + ": " + text, isRefused && due.startsWith("refused ") ? refusal() : answer, due);
    }

    private String refusal() {
        return "refused " + table.reason(0) + ' ' + table.reason(1) + ' ' + table.reason(2);
    }

    private String answer(String name, List<String> arguments) {
        try {
            switch (name) {
                case "type": return "" + type(unquoted(arguments.get(0)));
                case "say": type(unquoted(arguments.get(0))); return "" + table.commands();
                case "written": return written();
                case "reasons": return '"' + "" + table.reason(0) + ' ' + table.reason(1) + ' ' + table.reason(2) + '"';
                case "accounts": return accounts();
                case "seat": return seat(Integer.parseInt(arguments.get(0)));
                default: return faceAnswer(name, arguments);
            }
        } catch (RuntimeException e) {
            return "throws " + e.getClass().getSimpleName();
        }
    }

    private int type(String text) {
        int length = 0;
        for (int k = 0; k < text.length(); k++) {
            length = table.append(text.charAt(k));
        }
        return length;
    }

    private String written() {
        int length = table.line();
        StringBuilder letters = new StringBuilder("\"");
        for (int k = 0; k < length; k++) {
            letters.append(table.character(k));
        }
        return letters.append('"').toString();
    }

    private String accounts() {
        StringBuilder numbers = new StringBuilder("\"");
        for (int k = 0; k < 12; k++) {
            numbers.append(k == 0 ? "" : " ").append(table.account(k));
        }
        return numbers.append('"').toString();
    }

    private String seat(int seat) {
        StringBuilder numbers = new StringBuilder("\"");
        for (int k = 0; k < 10; k++) {
            numbers.append(k == 0 ? "" : " ").append(table.seatOf(seat, k));
        }
        return numbers.append('"').toString();
    }

    private String faceAnswer(String name, List<String> arguments) {
        for (Method method : SoupTable.class.getMethods()) {
            if (method.getDeclaringClass() == SoupTable.class && method.getName().equals(name)) {
                return invoke(method, arguments);
            }
        }
        throw new AssertionError(title + ": no method " + name);
    }

    private String invoke(Method method, List<String> arguments) {
        Class<?>[] types = method.getParameterTypes();
        if (types.length != arguments.size()) {
            throw new AssertionError(title + ": other arguments for " + method.getName());
        }
        Object[] values = new Object[types.length];
        for (int k = 0; k < types.length; k++) {
            values[k] = value(types[k], arguments.get(k));
        }
        try {
            Object answer = method.invoke(table, values);
            return answer instanceof Character ? "'" + answer + "'" : String.valueOf(answer);
        } catch (InvocationTargetException e) {
            return "throws " + e.getCause().getClass().getSimpleName();
        } catch (IllegalAccessException e) {
            throw new AssertionError(e);
        }
    }

    private static Object value(Class<?> type, String text) {
        if (type == boolean.class) {
            return text.equals("true");
        }
        if (type == char.class) {
            return text.charAt(0) == '\'' ? text.charAt(1) : (char) Integer.parseInt(text);
        }
        return Integer.parseInt(text);
    }

    private static String unquoted(String text) {
        return text.substring(1, text.length() - 1);
    }

    private static List<String> split(String text, char separator) {
        List<String> parts = new ArrayList<>();
        boolean isQuoted = false;
        int depth = 0;
        StringBuilder part = new StringBuilder();
        for (int k = 0; k < text.length(); k++) {
            char c = text.charAt(k);
            boolean isSignLiteral = !isQuoted && c == '\'' && k + 2 < text.length() && text.charAt(k + 2) == '\'';
            if (isSignLiteral) {
                part.append(text, k, k + 3);
                k += 2;
                continue;
            }
            isQuoted ^= c == '"';
            depth += isQuoted ? 0 : c == '(' ? 1 : c == ')' ? -1 : 0;
            if (c == separator && !isQuoted && depth == 0) {
                addPart(parts, part);
            } else {
                part.append(c);
            }
        }
        addPart(parts, part);
        return parts;
    }

    private static void addPart(List<String> parts, StringBuilder part) {
        String trimmed = part.toString().trim();
        if (!trimmed.isEmpty()) {
            parts.add(trimmed);
        }
        part.setLength(0);
    }
}
