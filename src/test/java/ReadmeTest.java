import java.io.IOException;
import java.lang.reflect.InvocationTargetException;
import java.lang.reflect.Method;
import java.lang.reflect.Modifier;
import java.nio.file.Files;
import java.nio.file.Path;
import java.util.ArrayList;
import java.util.List;
import java.util.Set;
import java.util.TreeSet;
import java.util.regex.Matcher;
import java.util.regex.Pattern;

/** README.md: its run answers what is written there, and each call stands in the group that the document heads. */
public final class ReadmeTest {
    private static final Check CHECK = new Check();
    private static final Path README = Path.of("README.md");
    private static final Path DOCUMENT = Path.of("../shared/DOC.md");
    private static final Pattern LINE =
        Pattern.compile("x\\.(\\w+)\\((.*)\\);\\s*// (-?\\d+|throws \\w+)(\\s.*)?");
    private static final Pattern HEAD = Pattern.compile("Ahead of the calls (.*) the interface says: ---- (.*)\\.");
    private static final Pattern NAME = Pattern.compile("`(\\w+)`");

    public static void main(String[] args) throws IOException {
        String text = Files.readString(README);
        run(text);
        groups(text);
        refusals(text);
        CHECK.end("ReadmeTest");
    }

    private static void due(String what, boolean so) {
        CHECK.due(what, so ? 1 : 0, 1);
    }

    /** The lines of the README are one run on one object; each call of the face is in it. */
    private static void run(String text) {
        ServesWhatOneDreamt x = new ServesWhatOneDreamt();
        Set<String> called = new TreeSet<>();
        int calls = 0;
        for (String line : text.split("\n")) {
            Matcher told = LINE.matcher(line);
            if (told.matches()) {
                called.add(told.group(1));
                calls++;
                String got = answer(x, told.group(1), numbers(told.group(2)));
                due(line + " (answered " + got + ")", got.equals(told.group(3)));
            } else {
                due(line + " can be run", !line.startsWith("x."));
            }
        }
        due("at most 512 calls", calls <= 512);
        for (Method m : face()) {
            due(m.getName() + " is in the run", called.contains(m.getName()));
        }
    }

    private static List<Method> face() {
        List<Method> methods = new ArrayList<>();
        for (Method m : ServesWhatOneDreamt.class.getDeclaredMethods()) {
            if (Modifier.isPublic(m.getModifiers())) {
                methods.add(m);
            }
        }
        return methods;
    }

    private static Object[] numbers(String told) {
        if (told.isEmpty()) {
            return new Object[0];
        }
        String[] parts = told.split(", ");
        Object[] numbers = new Object[parts.length];
        for (int i = 0; i < parts.length; i++) {
            boolean sign = parts[i].startsWith("'");
            numbers[i] = sign ? (int) parts[i].charAt(1) : Integer.parseInt(parts[i]);
        }
        return numbers;
    }

    private static String answer(ServesWhatOneDreamt x, String name, Object[] numbers) {
        for (Method m : face()) {
            if (m.getName().equals(name) && m.getParameterCount() == numbers.length) {
                try {
                    return String.valueOf(m.invoke(x, numbers));
                } catch (InvocationTargetException e) {
                    return "throws " + e.getCause().getClass().getSimpleName();
                } catch (IllegalAccessException e) {
                    return "no access";
                }
            }
        }
        return "no such call";
    }

    /** "each group of calls, as the document heads them": its table has these calls and no other. */
    private static void groups(String text) throws IOException {
        Matcher head = HEAD.matcher(Files.readString(DOCUMENT));
        int groups = 0;
        while (head.find()) {
            groups++;
            int from = text.indexOf("\n### " + head.group(2) + "\n");
            due("the group " + head.group(2), from >= 0);
            String group = from < 0 ? "" : text.substring(from + 4).split("\n##")[0];
            due(head.group(2) + " has its calls", tabled(group).equals(names(head.group(1))));
        }
        due("seven groups", groups == 7);
    }

    private static List<String> names(String told) {
        List<String> names = new ArrayList<>();
        Matcher name = NAME.matcher(told);
        while (name.find()) {
            names.add(name.group(1));
        }
        return names;
    }

    private static List<String> tabled(String group) {
        List<String> names = new ArrayList<>();
        for (String line : group.split("\n")) {
            if (line.startsWith("| `")) {
                names.add(line.substring(3, line.indexOf('(')));
            }
        }
        return names;
    }

    private static void refusals(String text) {
        for (int refusal : new int[] {-1, -2, -3, -4, -11, -12, -13, -14, -15}) {
            due("what " + refusal + " means", text.contains("\n| " + refusal + " | "));
        }
        for (String word : new String[] {"1000000001", "IllegalArgumentException", "IllegalStateException", ".ci/run"}) {
            due(word + " is told", text.contains(word));
        }
    }
}
