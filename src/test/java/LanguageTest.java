import java.lang.reflect.Constructor;
import java.lang.reflect.Field;
import java.lang.reflect.Method;
import java.lang.reflect.Modifier;
import java.nio.file.Files;
import java.nio.file.Path;
import java.util.Arrays;
import java.util.List;
import java.util.Set;
import java.util.TreeSet;
import java.util.regex.Matcher;
import java.util.regex.Pattern;

/** The public face, and the rules of LANGUAGE.md that the class and its source show without being run. */
public final class LanguageTest {
    private static final Set<String> FACE = new TreeSet<>(List.of(
        "int verb(int)", "int like(int,int)", "int line(int,int,boolean)", "int token(int,int,int)", "int thing(int)",
        "int name(int,int)", "int flags(int,int)", "int custom(int,int,int)", "int word(int)", "int clear()",
        "int parse()", "int answer(int)", "int object(int,int)", "int asked(int)", "int filled(int)", "int told(int)",
        "int trace(int,int)", "int said(int,int)"));
    private static final Set<String> CONSTANTS = new TreeSet<>(List.of("NONE", "UNKNOWN", "OUTSIDE", "STATE", "ROOM"));

    private static int wrong = 0;

    private static void rule(boolean kept, String what) {
        if (!kept) {
            wrong++;
            System.out.println("not kept: " + what);
        }
    }

    public static void main(String[] args) throws Exception {
        face();
        for (Class<?> c : GrammarLines.class.getDeclaredClasses()) {
            rule(Modifier.isStatic(c.getModifiers()), c + " is static");
            rule(!Modifier.isPublic(c.getModifiers()) && !Modifier.isProtected(c.getModifiers()), c + " is hidden");
            sizes(c);
        }
        sizes(GrammarLines.class);
        rule(GrammarLines.class.getDeclaredClasses().length < 12, "some twelve classes");
        Path file = Path.of(System.getProperty("project.root", "."), "src/main/java/GrammarLines.java");
        source(Files.readString(file));
        System.out.println(wrong == 0 ? "the rules are kept" : wrong + " rules are not kept");
        if (wrong != 0) {
            System.exit(1);
        }
    }

    private static String told(Method m) {
        String parameters = String.join(",", Arrays.stream(m.getParameterTypes()).map(Class::getName).toList());
        return m.getReturnType().getName() + " " + m.getName() + "(" + parameters + ")";
    }

    private static void face() {
        int modifiers = GrammarLines.class.getModifiers();
        rule(Modifier.isPublic(modifiers) && Modifier.isFinal(modifiers), "the class is public and final");
        Set<String> methods = new TreeSet<>();
        Set<String> names = new TreeSet<>();
        for (Method m : GrammarLines.class.getDeclaredMethods()) {
            if (!Modifier.isPrivate(m.getModifiers())) {
                methods.add(told(m));
                names.add(m.getName());
            }
        }
        rule(methods.equals(FACE), "the methods are " + FACE + " and not " + methods);
        for (Method m : GrammarLines.class.getDeclaredMethods()) {
            rule(!Modifier.isPrivate(m.getModifiers()) || !names.contains(m.getName()), "private " + m.getName());
        }
        Set<String> constants = new TreeSet<>();
        for (Field f : GrammarLines.class.getDeclaredFields()) {
            if (!Modifier.isPrivate(f.getModifiers())) {
                constants.add(f.getName());
            }
        }
        rule(constants.equals(CONSTANTS), "the constants are " + CONSTANTS + " and not " + constants);
        Constructor<?>[] made = GrammarLines.class.getDeclaredConstructors();
        rule(made.length == 1 && made[0].getParameterCount() == 0, "one constructor without parameters");
    }

    private static void sizes(Class<?> c) {
        int own = 0;
        for (Field f : c.getDeclaredFields()) {
            if (Modifier.isStatic(f.getModifiers())) {
                rule(Modifier.isFinal(f.getModifiers()), f + " is final");
            } else {
                own++;
            }
        }
        rule(own <= 20, c + " has some twenty fields");
        for (Method m : c.getDeclaredMethods()) {
            rule(m.getParameterCount() <= 7, m + " has at most seven parameters");
        }
    }

    private static void source(String text) {
        String code = text.replaceAll("(?s)/\\*.*?\\*/", "").replaceAll("//[^\n]*", "");
        for (String word : List.of("throw", "try", "catch", "throws", "synchronized", "assert", "import", "package",
                "System", "Object", "hashCode", "toString")) {
            rule(!Pattern.compile("\\b" + word + "\\b").matcher(code).find(), "no '" + word + "'");
        }
        for (String part : List.of("->", "::", "Exact(", "\"")) {
            rule(!code.contains(part), "no '" + part + "'");
        }
        rule(text.chars().allMatch(ch -> ch < 128), "plain characters alone");
        int methods = 0;
        Matcher body = Pattern.compile("(?m)^( {4}| {8})(\\S[^;=\\n]*\\)) \\{\\n(?:.*\\n)*?\\1\\}\\n").matcher(code);
        while (body.find()) {
            String head = body.group(2);
            rule(body.group().lines().count() <= 60, "a short method: " + head);
            boolean constructor = head.matches("(public )?[A-Z]\\w*\\(.*");
            rule(constructor || !body.group().contains("new "), "no call makes an object or an array: " + head);
            methods++;
        }
        rule(methods > 80, "the methods are found, not only " + methods);
    }
}
