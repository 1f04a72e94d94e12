import java.io.IOException;
import java.lang.reflect.Constructor;
import java.lang.reflect.Field;
import java.lang.reflect.Method;
import java.lang.reflect.Modifier;
import java.nio.file.Files;
import java.nio.file.Path;
import java.util.Arrays;
import java.util.List;
import java.util.Set;
import java.util.TreeSet;
import java.util.regex.Matcher;
import java.util.regex.Pattern;

/** The public face of the document, and what the language's rules forbid as far as it can be seen here. */
public final class FaceTest {
    private static final Check CHECK = new Check();
    private static final Path SOURCE = Path.of("src/main/java/ServesWhatOneDreamt.java");
    private static final Path DOCUMENT = Path.of("../shared/DOC.md");
    private static final List<String> FORBIDDEN = List.of("->", "::", "\\bfinally\\b", "\\bassert\\b", "\\bsynchronized\\b",
        "\\bimport\\b", "\\bpackage\\b", "Exact\\b", "getMessage", "\\bprotected\\b", "hashCode", "toString",
        "RuntimeException", "ArithmeticException", "NullPointerException", "IndexOutOfBounds", "ClassCastException",
        "catch \\((Exception|Throwable|RuntimeException)", "\\bString\\b", "\\bdouble\\b", "\\bfloat\\b");

    public static void main(String[] args) throws IOException {
        face();
        methods(ServesWhatOneDreamt.class);
        nested();
        source();
        CHECK.end("FaceTest");
    }

    private static void due(String what, boolean so) {
        CHECK.due(what, so ? 1 : 0, 1);
    }

    private static String told(Method m) {
        StringBuilder s = new StringBuilder();
        s.append(m.getReturnType().getName()).append(' ').append(m.getName());
        s.append('(').append(m.getParameterCount()).append(')');
        for (Class<?> type : m.getParameterTypes()) {
            due(m.getName() + " takes ints", type == int.class);
        }
        return s.toString();
    }

    private static Set<String> documented() throws IOException {
        Set<String> wanted = new TreeSet<>();
        for (String line : Files.readAllLines(DOCUMENT)) {
            String text = line.strip();
            if (line.startsWith("    public ") && text.contains("(") && !text.startsWith("public ServesWhatOneDreamt")) {
                String inside = text.substring(text.indexOf('(') + 1, text.indexOf(')'));
                int many = inside.isEmpty() ? 0 : inside.split(",").length;
                wanted.add(text.substring(7, text.indexOf('(')) + "(" + many + ")");
            }
        }
        return wanted;
    }

    private static void face() throws IOException {
        Class<?> c = ServesWhatOneDreamt.class;
        due("public and final", Modifier.isPublic(c.getModifiers()) && Modifier.isFinal(c.getModifiers()));
        Constructor<?>[] made = c.getDeclaredConstructors();
        due("one constructor", made.length == 1 && made[0].getParameterCount() == 0);
        due("which is public", made.length == 1 && Modifier.isPublic(made[0].getModifiers()));
        Set<String> found = new TreeSet<>();
        Set<String> publicNames = new TreeSet<>();
        for (Method m : c.getDeclaredMethods()) {
            if (Modifier.isPublic(m.getModifiers())) {
                found.add(told(m));
                publicNames.add(m.getName());
            } else {
                due(m.getName() + " is private", Modifier.isPrivate(m.getModifiers()) || m.isSynthetic());
            }
        }
        for (Method m : c.getDeclaredMethods()) {
            due("no private " + m.getName(), Modifier.isPublic(m.getModifiers()) || !publicNames.contains(m.getName()));
        }
        Set<String> wanted = documented();
        due("38 methods in the document", wanted.size() == 38);
        due("the methods of the document: " + found + " for " + wanted, found.equals(wanted));
        for (Field f : c.getDeclaredFields()) {
            due(f.getName() + " is private", Modifier.isPrivate(f.getModifiers()));
        }
    }

    private static void nested() {
        Class<?>[] inside = ServesWhatOneDreamt.class.getDeclaredClasses();
        due("at most twelve classes", inside.length < 12);
        for (Class<?> n : inside) {
            methods(n);
            int how = n.getModifiers();
            due(n.getName() + " is static", Modifier.isStatic(how));
            due(n.getName() + " is not public", !Modifier.isPublic(how) && !Modifier.isProtected(how));
            long fields = Arrays.stream(n.getDeclaredFields()).filter(f -> !Modifier.isStatic(f.getModifiers())).count();
            due(n.getName() + " has at most twenty fields", fields <= 20);
            for (Field f : n.getDeclaredFields()) {
                int of = f.getModifiers();
                due(f.getName() + " is no static state", !Modifier.isStatic(of) || Modifier.isFinal(of));
            }
        }
    }

    /** Rule 11: "A method takes at most seven parameters". */
    private static void methods(Class<?> c) {
        for (Method m : c.getDeclaredMethods()) {
            due(m.getName() + " takes at most seven", m.getParameterCount() <= 7);
        }
    }

    /** Rule 11: "Methods stay short (some sixty lines)"; a method's lines end with a brace as deep as its first. */
    private static void lengths(String code) {
        Matcher method = Pattern.compile("(?m)^( +)[a-zA-Z][^\n=;]*\\) (?:throws [^{;]*)?\\{\n").matcher(code);
        int methods = 0;
        while (method.find()) {
            int end = code.indexOf("\n" + method.group(1) + "}", method.end() - 1);
            long lines = code.substring(method.start(), Math.max(method.start(), end)).lines().count();
            methods++;
            due(method.group().strip() + " is short", lines > 0 && lines <= 60);
        }
        due("methods are found", methods >= 38);
    }

    private static void source() throws IOException {
        String text = Files.readString(SOURCE);
        String code = text.replaceAll("(?s)/\\*.*?\\*/", "").replaceAll("//[^\n]*", "");
        for (String word : FORBIDDEN) {
            due("no " + word, !Pattern.compile(word).matcher(code).find());
        }
        lengths(code);
        due("ASCII alone", text.chars().allMatch(sign -> sign < 127));
    }
}
