import java.io.IOException;
import java.lang.reflect.Constructor;
import java.lang.reflect.Field;
import java.lang.reflect.Method;
import java.lang.reflect.Modifier;
import java.nio.file.Files;
import java.nio.file.Path;
import java.util.ArrayList;
import java.util.Arrays;
import java.util.List;
import java.util.Set;
import java.util.TreeSet;

/** The public face, and those of LANGUAGE.md's rules that can be seen without much reading. */
public final class SourceTest {
    private static final Checks CHECKS = new Checks();

    public static void main(String[] args) throws IOException {
        face();
        inside();
        text(Files.readString(Path.of("src/main/java/StatePress.java")));
        CHECKS.end();
    }

    private static void face() {
        Class<?> type = StatePress.class;
        CHECKS.due("public and final", Modifier.isPublic(type.getModifiers()) && Modifier.isFinal(type.getModifiers()), true);
        Set<String> seen = new TreeSet<>();
        Set<String> names = new TreeSet<>();
        for (Method method : type.getDeclaredMethods()) {
            if (!Modifier.isPrivate(method.getModifiers())) {
                List<String> parameters = new ArrayList<>();
                for (Class<?> parameter : method.getParameterTypes()) {
                    parameters.add(parameter.toString());
                }
                seen.add(method.getReturnType() + " " + method.getName() + "(" + String.join(",", parameters) + ")");
                names.add(method.getName());
                CHECKS.due(method + " is public and no static one", Modifier.isPublic(method.getModifiers())
                    && !Modifier.isStatic(method.getModifiers()), true);
            }
        }
        Constructor<?>[] constructors = type.getDeclaredConstructors();
        CHECKS.due("one constructor", constructors.length, 1);
        CHECKS.due("it is public", Modifier.isPublic(constructors[0].getModifiers()), true);
        CHECKS.due("without parameters", constructors[0].getParameterCount(), 0);
        seen.add("StatePress()");
        CHECKS.due("the document's face is " + seen, seen.equals(new TreeSet<>(Document.face())), true);
        for (Field field : type.getDeclaredFields()) {
            CHECKS.due(field + " is private", Modifier.isPrivate(field.getModifiers()), true);
        }
        for (Class<?> one : classes()) {
            for (Method method : one.getDeclaredMethods()) {
                boolean borne = names.contains(method.getName()) && !Modifier.isPublic(method.getModifiers());
                CHECKS.due(method + " bears a name of the face", borne, false);
            }
        }
    }

    private static List<Class<?>> classes() {
        List<Class<?>> all = new ArrayList<>(Arrays.asList(StatePress.class.getDeclaredClasses()));
        all.add(StatePress.class);
        return all;
    }

    private static void inside() {
        CHECKS.due("twelve classes at most", classes().size() <= 12, true);
        for (Class<?> one : classes()) {
            int fields = 0;
            for (Field field : one.getDeclaredFields()) {
                boolean shared = Modifier.isStatic(field.getModifiers());
                fields += shared ? 0 : 1;
                CHECKS.due(field + ", static, is final", shared && !Modifier.isFinal(field.getModifiers()), false);
            }
            CHECKS.due(one + " has twenty fields at most", fields <= 20, true);
            for (Method method : one.getDeclaredMethods()) {
                CHECKS.due(method + " has seven parameters at most", method.getParameterCount() <= 7, true);
            }
            CHECKS.due(one + " is static", one == StatePress.class || Modifier.isStatic(one.getModifiers()), true);
        }
    }

    private static void text(String source) {
        String[] never = {"throw", "catch", "try {", "->", "::", "synchronized", "assert", "System.out", "System.nano",
            "static {", "while (true)", "for (;;)", "package ", "double", "float", "record ", "Exact", "instanceof"};
        String bare = source.replaceAll("(?s)/\\*.*?\\*/", "").replaceAll("//.*", "");
        for (String word : never) {
            CHECKS.due("'" + word + "' is not there", bare.contains(word), false);
        }
        for (String line : source.split("\n")) {
            CHECKS.due("a line of 120 at most: " + line, line.length() <= 120, true);
            CHECKS.due("an import of more: " + line, line.startsWith("import") && !line.equals("import java.util.Arrays;"), false);
        }
        methods(source.split("\n"));
    }

    /** A method ends with the first brace that stands as deep as its own line. */
    private static void methods(String[] lines) {
        int found = 0;
        for (int i = 0; i < lines.length; i++) {
            String line = lines[i];
            String depth = line.substring(0, line.length() - line.stripLeading().length());
            if (line.matches("( {4}| {8})(public |private |static |final )*[A-Za-z\\[\\]]+ ?[A-Za-z]*\\(.*\\) \\{") ) {
                int end = i;
                while (!lines[end].equals(depth + "}")) {
                    end++;
                }
                found++;
                CHECKS.due("sixty lines at most: " + line, end - i <= 60, true);
            }
        }
        CHECKS.due("methods are found", found > 80, true);
    }
}
