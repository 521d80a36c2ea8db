import java.lang.reflect.Constructor;
import java.lang.reflect.Field;
import java.lang.reflect.Method;
import java.lang.reflect.Modifier;
import java.nio.file.Files;
import java.nio.file.Path;
import java.util.Set;
import java.util.TreeSet;
import java.util.regex.Matcher;
import java.util.regex.Pattern;

/** What can be seen of ../shared/LANGUAGE.md from the source and the class: the face, and words that are not allowed. */
public final class LanguageTest {
    private static final Due D = new Due("LanguageTest");
    private static final Set<String> METHODS = Set.of("setUp", "set", "lift", "hang", "dial", "tick", "line", "finder", "connector",
        "count", "trace", "until", "attempt", "put", "wipe", "fault", "carryOut", "save", "restore");

    public static void main(String[] args) throws Exception {
        face();
        insideClasses();
        source();
        D.end();
    }

    private static void face() {
        Class<?> type = RotaryExchange.class;
        D.due("public and final", Modifier.isPublic(type.getModifiers()) && Modifier.isFinal(type.getModifiers()));
        Set<String> methods = new TreeSet<>();
        for (Method method : type.getDeclaredMethods()) {
            boolean isPublic = Modifier.isPublic(method.getModifiers());
            D.due("public or private: " + method, isPublic || Modifier.isPrivate(method.getModifiers()) || method.isSynthetic());
            if (isPublic) {
                methods.add(method.getName());
                D.due("of the document: " + method, METHODS.contains(method.getName()) && method.getReturnType() == int.class);
            } else {
                D.due("bears no public name: " + method, !METHODS.contains(method.getName()));
            }
        }
        D.due("public methods", methods.size(), METHODS.size());
        Constructor<?>[] constructors = type.getConstructors();
        D.due("constructors", constructors.length, 1);
        D.due("parameters of the constructor", constructors.length == 1 ? constructors[0].getParameterCount() : -1, 0);
        int constants = 0;
        for (Field field : type.getDeclaredFields()) {
            int modifiers = field.getModifiers();
            boolean constant = Modifier.isPublic(modifiers) && Modifier.isStatic(modifiers) && Modifier.isFinal(modifiers);
            D.due("constant or private: " + field, constant || Modifier.isPrivate(modifiers));
            constants += constant ? 1 : 0;
        }
        D.due("public constants", constants, 6 + 12 + 10 + 5);
    }

    private static void insideClasses() {
        Class<?>[] inside = RotaryExchange.class.getDeclaredClasses();
        D.due("at most 12 classes", inside.length < 12);
        for (Class<?> type : inside) {
            D.due("static: " + type, Modifier.isStatic(type.getModifiers()));
            D.due("not public: " + type, !Modifier.isPublic(type.getModifiers()) && !Modifier.isProtected(type.getModifiers()));
            int fields = 0;
            for (Field field : type.getDeclaredFields()) {
                boolean isStatic = Modifier.isStatic(field.getModifiers());
                D.due("no static state: " + field, !isStatic || Modifier.isFinal(field.getModifiers()));
                fields += isStatic ? 0 : 1;
            }
            D.due("at most 20 fields: " + type, fields <= 20);
            for (Method method : type.getDeclaredMethods()) {
                D.due("at most 7 parameters: " + method, method.getParameterCount() <= 7);
                D.due("bears no public name: " + method, !METHODS.contains(method.getName()));
            }
        }
    }

    private static void source() throws Exception {
        String text = Files.readString(Path.of("src/main/java/RotaryExchange.java"));
        D.due("signs 1 to 127", text.chars().allMatch(c -> c >= 1 && c <= 127));
        String code = text.replaceAll("(?s)/\\*.*?\\*/", "").replaceAll("//[^\n]*", "");
        Matcher words = Pattern.compile("\\b(throw|throws|try|catch|finally|synchronized|assert|import|package|instanceof|transient|"
            + "volatile|native|strictfp|Object|System\\.(?!arraycopy)\\w+|Thread|\\w*Exception|\\w*Exact|hashCode|toString)\\b|->|::|\"").matcher(code);
        while (words.find()) {
            D.due("without " + words.group(), false);
        }
        methodsStayShort(code.split("\n"));
    }

    /** A method begins with a line like "..) {" and ends with a brace, both indented by 4 or by 8. */
    private static void methodsStayShort(String[] lines) {
        for (String indent : new String[] {"    ", "        "}) {
            int begin = -1;
            for (int i = 0; i < lines.length; i++) {
                if (lines[i].matches(indent + "\\S.*\\) \\{")) {
                    begin = i;
                } else if (begin >= 0 && lines[i].equals(indent + "}")) {
                    D.due("at most 60 lines: " + lines[begin].trim(), i - begin < 60);
                    begin = -1;
                }
            }
        }
    }
}
