import java.io.IOException;
import java.lang.reflect.Constructor;
import java.lang.reflect.Field;
import java.lang.reflect.Method;
import java.lang.reflect.Modifier;
import java.nio.file.Files;
import java.nio.file.Path;
import java.util.List;
import java.util.Set;
import java.util.TreeSet;
import java.util.regex.Matcher;
import java.util.regex.Pattern;

/** The public face, as DOC.md has it, and what of LANGUAGE.md can be seen from outside. */
public final class FaceTest {
    private static final Path DOC = Path.of("../shared/DOC.md");
    private static final Path CLASS = Path.of("src/main/java/PrayerWay.java");

    private static Set<String> documented() throws IOException {
        String doc = Files.readString(DOC);
        Matcher methods = Pattern.compile("(?m)^    public (int|boolean) (\\w+)\\((.*?)\\).*;$").matcher(doc);
        Set<String> face = new TreeSet<>();
        while (methods.find()) {
            face.add(methods.group(1) + " " + methods.group(2) + "(" + types(methods.group(3)) + ")");
        }
        return face;
    }

    private static String types(String parameters) {
        StringBuilder types = new StringBuilder();
        for (String parameter : parameters.split(",\\s*")) {
            types.append(parameter.split(" ")[0]).append(' ');
        }
        return types.toString().trim();
    }

    private static String signature(Method method) {
        StringBuilder types = new StringBuilder();
        for (Class<?> type : method.getParameterTypes()) {
            types.append(type.getName()).append(' ');
        }
        return method.getReturnType().getName() + " " + method.getName() + "(" + types.toString().trim() + ")";
    }

    private static void face() throws IOException {
        Set<String> want = documented();
        Set<String> got = new TreeSet<>();
        for (Method method : PrayerWay.class.getDeclaredMethods()) {
            if (Modifier.isPublic(method.getModifiers())) {
                got.add(signature(method));
            } else {
                Checks.due("private " + method, 1, Modifier.isPrivate(method.getModifiers()) ? 1 : 0);
            }
        }
        Checks.due("methods in the document", 56, want.size());
        Checks.due("face " + got + " as " + want, 1, got.equals(want) ? 1 : 0);
        for (Field field : PrayerWay.class.getDeclaredFields()) {
            boolean right = field.getName().equals("NONE") == Modifier.isPublic(field.getModifiers());
            Checks.due("field " + field, 1, right && (Modifier.isPublic(field.getModifiers())
                    || Modifier.isPrivate(field.getModifiers())) ? 1 : 0);
        }
        Constructor<?>[] made = PrayerWay.class.getDeclaredConstructors();
        Checks.due("constructors", 1, made.length);
        Checks.due("a final class", 1, Modifier.isFinal(PrayerWay.class.getModifiers()) ? 1 : 0);
        Checks.due("NONE", -1, PrayerWay.NONE);
    }

    private static void inside() throws IOException {
        Set<String> names = new TreeSet<>();
        for (String signature : documented()) {
            names.add(signature.replaceAll("^\\w+ (\\w+)\\(.*$", "$1"));
        }
        List<Class<?>> classes = List.of(PrayerWay.class.getDeclaredClasses());
        Checks.due("at most twelve classes", 1, classes.size() <= 11 ? 1 : 0);
        for (Class<?> one : classes) {
            Checks.due("private and static: " + one, 1,
                    Modifier.isPrivate(one.getModifiers()) && Modifier.isStatic(one.getModifiers()) ? 1 : 0);
            for (Method method : one.getDeclaredMethods()) {
                Checks.due("no name of the face: " + method, 0, names.contains(method.getName()) ? 1 : 0);
                Checks.due("seven parameters: " + method, 1, method.getParameterCount() <= 7 ? 1 : 0);
            }
            int fields = 0;
            for (Field field : one.getDeclaredFields()) {
                fields += Modifier.isStatic(field.getModifiers()) ? 0 : 1;
            }
            Checks.due("twenty fields: " + one, 1, fields <= 20 ? 1 : 0);
        }
        for (Method method : PrayerWay.class.getDeclaredMethods()) {
            if (Modifier.isPrivate(method.getModifiers())) {
                Checks.due("no name of the face: " + method, 0, names.contains(method.getName()) ? 1 : 0);
            }
        }
    }

    private static void text() throws IOException {
        String code = Files.readString(CLASS);
        for (String banned : List.of("catch", "finally", "->", "::", "synchronized", "assert ", "Exact(", "System.out",
                "getMessage", ".ordinal(", ".values(", "Math.random", "String[]", "[][]", "static {")) {
            Checks.due("no " + banned, -1, code.indexOf(banned));
        }
        Checks.due("one throw", code.indexOf("throw "), code.lastIndexOf("throw "));
        int from = 0;
        String[] lines = code.split("\n");
        for (int i = 0; i < lines.length; i++) {
            if (lines[i].matches("^ {4}( {4})?(public|private|static|int|boolean|void|Land|Days).*\\) .*\\{$")) {
                from = i;
            } else if (lines[i].matches("^ {4}( {4})?\\}$")) {
                Checks.due("at most sixty lines up to " + (i + 1), 1, i - from <= 60 || isClassEnd(lines, i) ? 1 : 0);
            }
        }
    }

    /** Rule 8: what calls itself is private and static. */
    private static void recursion() throws IOException {
        String code = Files.readString(CLASS);
        Matcher methods = Pattern.compile("(?ms)^( {4}(?: {4})?)([\\w ]*?)\\b(\\w+)\\([^;{}]*?\\) \\{\\n(.*?)^\\1\\}$").matcher(code);
        int found = 0;
        while (methods.find()) {
            if (Pattern.compile("(?<![.\\w])" + methods.group(3) + "\\(").matcher(methods.group(4)).find()) {
                found++;
                Checks.due("private and static: " + methods.group(3), 1,
                        methods.group(2).startsWith("private static ") ? 1 : 0);
            }
        }
        Checks.due("methods that call themselves", 1, found);
    }

    private static boolean isClassEnd(String[] lines, int i) {
        return lines[i].equals("    }") && i > 0 && lines[i - 1].equals("        }");
    }

    public static void main(String[] args) throws IOException {
        face();
        inside();
        text();
        recursion();
        Checks.end("FaceTest");
    }
}
