import java.lang.reflect.Method;
import java.lang.reflect.Modifier;
import java.nio.file.Files;
import java.nio.file.Path;
import java.util.Set;
import java.util.TreeSet;
import java.util.regex.Matcher;
import java.util.regex.Pattern;

/** README.md tells every call of the face, and the calls of its example answer what stands beside them. */
public final class ReadmeTest {
    private static final Pattern CALL = Pattern.compile("tree\\.(\\w+)\\(([^()]*)\\);(?: +// ([^: ]+).*)?");

    private static int wrong = 0;

    private static void fault(String text) {
        wrong++;
        System.out.println("README.md: " + text);
    }

    private static Method methodOf(String name) {
        for (Method m : SideLinkTree.class.getDeclaredMethods()) {
            if (m.getName().equals(name) && Modifier.isPublic(m.getModifiers())) {
                return m;
            }
        }
        return null;
    }

    private static Object[] argumentsOf(Method m, String written) {
        String[] words = written.isBlank() ? new String[0] : written.split(", *");
        Object[] arguments = new Object[words.length];
        for (int i = 0; i < words.length; i++) {
            boolean isLong = m.getParameterTypes()[i] == long.class;
            if (isLong) {
                arguments[i] = Long.valueOf(words[i]);
            } else {
                arguments[i] = Integer.valueOf(words[i]);
            }
        }
        return arguments;
    }

    /** Makes the calls of the example one by one; answers which methods these were. */
    private static Set<String> runExample(String example) throws ReflectiveOperationException {
        Set<String> called = new TreeSet<>();
        SideLinkTree tree = new SideLinkTree();
        for (String line : example.lines().skip(1).toList()) {
            Matcher call = CALL.matcher(line);
            Method m = call.matches() ? methodOf(call.group(1)) : null;
            if (m == null) {
                fault("no call of the face: " + line);
                continue;
            }
            called.add(m.getName());
            Object answer = m.invoke(tree, argumentsOf(m, call.group(2)));
            String due = call.group(3);
            if (m.getReturnType() == void.class ? due != null : !String.valueOf(answer).equals(due)) {
                fault(line + " answered " + answer);
            }
        }
        return called;
    }

    /** The row of the table for a method, with names of parameters that are free. */
    private static Pattern rowOf(Method m) {
        StringBuilder row = new StringBuilder("\\| `" + m.getReturnType() + " " + m.getName() + "\\(");
        String comma = "";
        for (Class<?> type : m.getParameterTypes()) {
            row.append(comma).append(type).append(" \\w+");
            comma = ", ";
        }
        return Pattern.compile(row + "\\)` \\| \\S");
    }

    public static void main(String[] args) throws Exception {
        String text = Files.readString(Path.of("README.md"));
        int start = text.indexOf("SideLinkTree tree = new SideLinkTree();");
        Set<String> called = start < 0 ? Set.of() : runExample(text.substring(start, text.indexOf("\n```", start)));
        for (Method m : SideLinkTree.class.getDeclaredMethods()) {
            if (!Modifier.isPublic(m.getModifiers())) {
                continue;
            }
            if (!rowOf(m).matcher(text).find()) {
                fault("no row for " + m);
            }
            if (!called.contains(m.getName())) {
                fault("the example does not call " + m.getName());
            }
        }
        System.out.println(wrong == 0 ? "README.md is as due" : wrong + " faults in README.md");
        if (wrong != 0) {
            System.exit(1);
        }
    }
}
