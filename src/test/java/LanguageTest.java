import java.io.IOException;
import java.lang.reflect.Field;
import java.lang.reflect.Method;
import java.lang.reflect.Modifier;
import java.nio.file.Files;
import java.nio.file.Path;
import java.util.Set;
import java.util.TreeSet;

/** Those rules of ../shared/LANGUAGE.md that can be seen without reading; its argument is the source. */
public final class LanguageTest {
    private static final Check check = new Check("LanguageTest");
    private static final String[] FORBIDDEN = {
        "package", "import", "throw", "throws", "try", "catch", "finally", "synchronized", "assert", "volatile",
        "Exact", "System.out", "System.exit", "Random", "Thread", "->", "::", "@"
    };

    public static void main(String[] args) throws IOException {
        String source = Files.readString(Path.of(args[0]));
        String code = source.replaceAll("(?s)/\\*.*?\\*/", "").replaceAll("//[^\n]*", "");
        for (String word : FORBIDDEN) {
            boolean isName = Character.isLetter(word.charAt(0));
            boolean found = isName ? code.matches("(?s).*\\b" + word.replace(".", "\\.") + "\\b.*") : code.contains(word);
            check.due("the source has " + word, found ? 1 : 0, 0);
        }
        check.due("characters beyond ASCII", source.chars().filter(sign -> sign > 126).count(), 0);
        Set<String> publicNames = new TreeSet<>();
        for (Method method : CloneOutline.class.getDeclaredMethods()) {
            if (Modifier.isPublic(method.getModifiers())) {
                publicNames.add(method.getName());
            }
        }
        members(CloneOutline.class, publicNames);
        Class<?>[] inside = CloneOutline.class.getDeclaredClasses();
        check.due("at most twelve classes", inside.length <= 11 ? 1 : 0, 1);
        for (Class<?> one : inside) {
            check.due(one + " is static", Modifier.isStatic(one.getModifiers()) ? 1 : 0, 1);
            check.due(one + " is not public", Modifier.isPublic(one.getModifiers()) ? 1 : 0, 0);
            members(one, publicNames);
        }
        methodsAreShort(source);
        check.end();
    }

    private static void members(Class<?> one, Set<String> publicNames) {
        for (Method method : one.getDeclaredMethods()) {
            boolean isPublic = Modifier.isPublic(method.getModifiers());
            check.due(one + "." + method.getName() + " bears a public name",
                !isPublic && publicNames.contains(method.getName()) ? 1 : 0, 0);
            check.due(one + "." + method.getName() + " has at most seven parameters",
                method.getParameterCount() <= 7 ? 1 : 0, 1);
        }
        int changing = 0;
        for (Field field : one.getDeclaredFields()) {
            boolean isStatic = Modifier.isStatic(field.getModifiers());
            changing += isStatic ? 0 : 1;
            check.due(one + "." + field.getName() + " is static, not final",
                isStatic && !Modifier.isFinal(field.getModifiers()) ? 1 : 0, 0);
        }
        check.due(one + " has at most twenty fields", changing <= 20 ? 1 : 0, 1);
    }

    /** A method begins at a line with "(" that ends with "{", and ends at a "}" that stands as far in. */
    private static void methodsAreShort(String source) {
        String[] lines = source.split("\n");
        for (int begin = 0; begin < lines.length; begin++) {
            String indent = lines[begin].replaceAll("\\S.*", "");
            int end = begin;
            while (end < lines.length && !lines[end].equals(indent + "}")) {
                end++;
            }
            if (lines[begin].endsWith(") {") && end - begin > 60) {
                check.due("lines from " + lines[begin].trim(), end - begin, 60);
            }
        }
    }
}
