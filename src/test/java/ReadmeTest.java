import java.io.IOException;
import java.lang.reflect.Field;
import java.lang.reflect.Method;
import java.lang.reflect.Modifier;
import java.nio.file.Files;
import java.nio.file.Path;
import java.util.ArrayList;
import java.util.List;
import java.util.Set;
import java.util.TreeSet;
import java.util.regex.Matcher;
import java.util.regex.Pattern;

/**
 * Makes the calls of the Java blocks of README.md and compares their answers with those that stand behind
 * "//": one for each call of the line, or "1 to 9" for a line that types a text. A line that cannot be read so
 * is wrong, too: no call is shown that is not tried.
 */
public final class ReadmeTest {
    private static final String NEW = "CloneOutline x = new CloneOutline();";
    private static final Pattern LINE = Pattern.compile("(.*;) +// ([^:]*)(?:: .*)?");
    private static final Pattern CALL = Pattern.compile("x\\.(\\w+)\\(([^()]*|'.')\\); *");
    private static final Pattern TYPING =
        Pattern.compile("for \\(char c : \"([^\"]*)\"\\.toCharArray\\(\\)\\) x\\.type\\(c\\);");
    private static final Pattern METHOD_ROW = Pattern.compile("\\| `(\\w+)\\(([^)]*)\\)` \\|.*");
    private static final Pattern CONSTANT_ROW = Pattern.compile("\\| `(\\w+)` \\| (-\\d+) \\|.*");

    private static final Check check = new Check("ReadmeTest");
    private static final Set<String> shown = new TreeSet<>();
    private static CloneOutline x;
    private static int calls;

    public static void main(String[] args) throws IOException, ReflectiveOperationException {
        List<String> lines = Files.readAllLines(Path.of("README.md"));
        boolean isJava = false;
        int objects = 0;
        for (String line : lines) {
            if (line.startsWith("```")) {
                isJava = line.equals("```java");
                x = null;
            } else if (isJava && line.equals(NEW)) {
                x = new CloneOutline();
                calls = 0;
                objects++;
            } else if (isJava) {
                tryLine(line);
            }
        }
        check.due("blocks of calls, one for each group", objects, 5);
        for (Method method : methods()) {
            check.due(method.getName() + " is shown", shown.contains(method.getName()) ? 1 : 0, 1);
        }
        tablesAreWhole(lines);
        check.end();
    }

    private static void tryLine(String line) throws ReflectiveOperationException {
        Matcher parts = LINE.matcher(line);
        if (x == null || !parts.matches()) {
            check.dueText("a line without an object or an answer", line, "");
            return;
        }
        Matcher typing = TYPING.matcher(parts.group(1));
        if (typing.matches()) {
            tryTyping(line, typing.group(1), parts.group(2));
        } else {
            tryCalls(line, parts.group(1), parts.group(2).split(", "));
        }
        check.due("calls of one object are at most 512, at " + line, calls <= 512 ? 1 : 0, 1);
    }

    private static void tryTyping(String line, String text, String answers) {
        String[] ends = answers.split(" to ");
        int first = Integer.parseInt(ends[0]);
        for (int i = 0; i < text.length(); i++) {
            check.due(line, x.type(text.charAt(i)), first + i);
            calls++;
        }
        check.due("the last answer of " + line, Integer.parseInt(ends[1]), first + text.length() - 1);
        shown.add("type");
    }

    private static void tryCalls(String line, String statements, String[] answers)
            throws ReflectiveOperationException {
        Matcher call = CALL.matcher(statements);
        int end = 0;
        int tried = 0;
        while (call.find() && call.start() == end) {
            end = call.end();
            int got = answerOf(call.group(1), call.group(2));
            if (tried < answers.length) {
                check.due(call.group() + " of " + line, got, number(answers[tried]));
            }
            tried++;
        }
        check.due("the end of the calls of " + line, end, statements.length());
        check.due("the number of answers of " + line, answers.length, tried);
    }

    private static int answerOf(String name, String arguments) throws ReflectiveOperationException {
        String[] words = arguments.isEmpty() ? new String[0] : arguments.split(", ");
        for (Method method : methods()) {
            if (method.getName().equals(name)) {
                calls++;
                shown.add(name);
                return (int) method.invoke(x, values(method.getParameterTypes(), words));
            }
        }
        throw new NoSuchMethodException(name);
    }

    private static Object[] values(Class<?>[] types, String[] words) {
        if (types.length != words.length) {
            throw new IllegalArgumentException("arguments: " + String.join(", ", words));
        }
        Object[] values = new Object[words.length];
        for (int i = 0; i < words.length; i++) {
            if (types[i] == char.class && words[i].matches("'.'")) {
                values[i] = words[i].charAt(1);
            } else if (types[i] == boolean.class && words[i].matches("true|false")) {
                values[i] = words[i].equals("true");
            } else {
                values[i] = Integer.parseInt(words[i]);
            }
        }
        return values;
    }

    /** An answer is told by its number or by the name of its constant. */
    private static int number(String answer) throws ReflectiveOperationException {
        return answer.matches("[A-Z_]+")
            ? CloneOutline.class.getField(answer).getInt(null) : Integer.parseInt(answer);
    }

    private static List<Method> methods() {
        List<Method> methods = new ArrayList<>();
        for (Method method : CloneOutline.class.getDeclaredMethods()) {
            if (Modifier.isPublic(method.getModifiers())) {
                methods.add(method);
            }
        }
        return methods;
    }

    private static void tablesAreWhole(List<String> lines) throws ReflectiveOperationException {
        List<String> told = new ArrayList<>();
        for (String line : lines) {
            Matcher method = METHOD_ROW.matcher(line);
            Matcher constant = CONSTANT_ROW.matcher(line);
            if (method.matches()) {
                String parameters = method.group(2);
                told.add(method.group(1) + "/" + (parameters.isEmpty() ? 0 : parameters.split(", ").length));
            } else if (constant.matches()) {
                told.add(constant.group(1) + "=" + constant.group(2));
            }
        }
        List<String> due = new ArrayList<>();
        for (Method method : methods()) {
            due.add(method.getName() + "/" + method.getParameterCount());
        }
        for (Field field : CloneOutline.class.getFields()) {
            due.add(field.getName() + "=" + field.getInt(null));
        }
        told.sort(null);
        due.sort(null);
        check.dueText("the tables", told.toString(), due.toString());
    }
}
