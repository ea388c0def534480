import java.lang.reflect.Method;
import java.nio.file.Files;
import java.nio.file.Path;
import java.util.HashSet;
import java.util.Set;
import java.util.regex.Matcher;
import java.util.regex.Pattern;

/** Every call that README.md shows answers what stands beside it. */
public final class ReadmeTest {
    private static final Pattern MADE = Pattern.compile("NamesInBags x = new NamesInBags\\(\\);");
    private static final Pattern CALL =
        Pattern.compile("x\\.(\\w+)\\(([^)]*)\\);\\s*// (-?\\d+|true|false)(?::.*)?");

    private static int calls = 0;
    private static int wrong = 0;

    private static void complain(String about) {
        wrong++;
        System.out.println(about);
    }

    private static Method method(String name) {
        for (Method m : NamesInBags.class.getMethods()) {
            if (m.getDeclaringClass() == NamesInBags.class && m.getName().equals(name)) {
                return m;
            }
        }
        return null;
    }

    private static Object value(Class<?> type, String told) {
        if (type == boolean.class) {
            return Boolean.valueOf(told);
        }
        long number = Long.decode(told);
        if (type == long.class) {
            return number;
        }
        return (int) number;
    }

    private static Object[] values(Method m, String told) {
        String[] parts = told.isEmpty() ? new String[0] : told.split(", ");
        Class<?>[] types = m.getParameterTypes();
        if (parts.length != types.length) {
            return null;
        }
        Object[] all = new Object[parts.length];
        for (int i = 0; i < parts.length; i++) {
            all[i] = value(types[i], parts[i]);
        }
        return all;
    }

    private static void check(NamesInBags x, String line) throws Exception {
        Matcher found = CALL.matcher(line);
        Method m = found.matches() ? method(found.group(1)) : null;
        Object[] told = m == null ? null : values(m, found.group(2));
        if (x == null || told == null) {
            complain("can't be called: " + line);
            return;
        }
        calls++;
        String got = String.valueOf(m.invoke(x, told));
        if (!got.equals(found.group(3))) {
            complain("answered " + got + ": " + line);
        }
    }

    /** The names of tests that README.md tells are those that there are. */
    private static void checkTests(String readme) throws Exception {
        Set<String> told = new HashSet<>();
        Matcher found = Pattern.compile("(?m)^- `(\\w+Test)`:").matcher(readme);
        while (found.find()) {
            told.add(found.group(1) + ".java");
        }
        Set<String> there = new HashSet<>();
        for (String name : Path.of("src/test/java").toFile().list()) {
            there.add(name);
        }
        if (!told.equals(there)) {
            complain("tests told: " + told + ", there are " + there);
        }
    }

    public static void main(String[] args) throws Exception {
        String readme = Files.readString(Path.of("README.md"));
        NamesInBags x = null;
        boolean inCode = false;
        for (String line : readme.split("\n")) {
            if (line.startsWith("```")) {
                inCode = line.equals("```java");
            } else if (inCode && MADE.matcher(line).matches()) {
                x = new NamesInBags();
            } else if (inCode) {
                check(x, line);
            }
        }
        checkTests(readme);
        System.out.println(calls + " calls of README.md");
        if (calls == 0) {
            complain("no call was found");
        }
        System.out.println(wrong == 0 ? "all answers are as due" : wrong + " things are not as due");
        if (wrong != 0) {
            System.exit(1);
        }
    }
}
