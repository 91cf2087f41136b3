import java.lang.reflect.Constructor;
import java.lang.reflect.Field;
import java.lang.reflect.Method;
import java.lang.reflect.Modifier;
import java.util.Set;
import java.util.TreeSet;

/** "The public face": every constant, the constructor and every method, and nothing else that is seen outside. */
public final class FaceTest {
    private static final String FACE = """
        public static final int UNKNOWN = -2;
        public static final int BAD_VALUE = -3;
        public static final int FULL = -4;
        public static final int NOT_POSSIBLE = -5;
        public static final int NONE = -6;
        public CloneOutline();
        public int add(int);
        public int cloneTo(int, int);
        public int move(int, int);
        public int cut(int);
        public int shift(int, int);
        public int edit(int);
        public int mark(int, int);
        public int fold(int, boolean);
        public int foldLevel(int);
        public int show(int);
        public int type(char);
        public int clearText();
        public int readOutline();
        public int undo();
        public int keep();
        public int restore();
        public int row(int, int);
        public int number(int, int);
        public int charAt(int, int);
        public int node(int, int);
        public int nextMarked(int, int);
        public int find(int);
        public int count(int);
        """;

    private static final Check check = new Check("FaceTest");

    public static void main(String[] args) throws IllegalAccessException {
        Class<?> type = CloneOutline.class;
        check.dueText("the class", Modifier.toString(type.getModifiers()) + " " + type.getName(),
            "public final CloneOutline");
        check.dueText("what it extends", type.getSuperclass().getName(), "java.lang.Object");
        check.due("interfaces", type.getInterfaces().length, 0);
        check.due("annotations", type.getDeclaredAnnotations().length, 0);
        Set<String> due = new TreeSet<>(FACE.lines().toList());
        Set<String> seen = seenMembers(type);
        for (String member : due) {
            check.due("has " + member, seen.contains(member) ? 1 : 0, 1);
        }
        for (String member : seen) {
            check.due("has also " + member, due.contains(member) ? 0 : 1, 0);
        }
        for (Class<?> inside : type.getDeclaredClasses()) {
            int modifiers = inside.getModifiers();
            check.due(inside.getName() + " is static, and not seen from outside",
                Modifier.isStatic(modifiers) && !Modifier.isPublic(modifiers) && !Modifier.isProtected(modifiers)
                    ? 1 : 0, 1);
        }
        check.end();
    }

    /** All members but the classes inside, unless they are private. */
    private static Set<String> seenMembers(Class<?> type) throws IllegalAccessException {
        Set<String> seen = new TreeSet<>();
        for (Field field : type.getDeclaredFields()) {
            if (!Modifier.isPrivate(field.getModifiers())) {
                seen.add(Modifier.toString(field.getModifiers()) + " " + field.getType() + " " + field.getName()
                    + (Modifier.isStatic(field.getModifiers()) ? " = " + field.get(null) : "") + ";");
            }
        }
        for (Constructor<?> constructor : type.getDeclaredConstructors()) {
            if (!Modifier.isPrivate(constructor.getModifiers())) {
                seen.add(Modifier.toString(constructor.getModifiers()) + " " + constructor.getName()
                    + parameters(constructor.getParameterTypes()));
            }
        }
        for (Method method : type.getDeclaredMethods()) {
            if (!Modifier.isPrivate(method.getModifiers())) {
                seen.add(Modifier.toString(method.getModifiers()) + " " + method.getReturnType() + " "
                    + method.getName() + parameters(method.getParameterTypes()));
            }
        }
        return seen;
    }

    private static String parameters(Class<?>[] types) {
        StringBuilder names = new StringBuilder("(");
        for (Class<?> one : types) {
            names.append(names.length() == 1 ? "" : ", ").append(one.getName());
        }
        return names.append(");").toString();
    }
}
