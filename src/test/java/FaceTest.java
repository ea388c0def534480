import java.lang.management.ManagementFactory;
import java.lang.reflect.Array;
import java.lang.reflect.Constructor;
import java.lang.reflect.Field;
import java.lang.reflect.InvocationTargetException;
import java.lang.reflect.Method;
import java.lang.reflect.Modifier;
import java.nio.file.Files;
import java.nio.file.Path;
import java.util.Arrays;
import java.util.HashSet;
import java.util.IdentityHashMap;
import java.util.Map;
import java.util.NoSuchElementException;
import java.util.Random;
import java.util.Set;
import java.util.TreeSet;

/** The face of the document, the rules of LANGUAGE.md that a test can see, and the room that an object takes. */
public final class FaceTest {
    private static final String[] FACE = {
        "int person(int)", "int debt(int, int)", "boolean away(int, int, int)", "int dies(int, int)",
        "int sheet(int, int, int, int)", "int pack(int, int)", "boolean renew(int, boolean)",
        "int drawing(int, int, int)", "int sign(int)", "boolean end(int)", "int rule()", "int other(int)",
        "int bars(int)", "int run()", "int judge(long, int)", "boolean hold(long, int)", "int begin()",
        "int bag(int, int)", "int sat(int)", "int chance(int, int)", "int each(int)", "int ever(int)",
        "int empty(int)", "int vain(int)", "int house(int, int)", "int ways(int)", "int sure(int, int)",
        "int sit(int, int)", "int known()", "int best(int, int, int, int, int)", "int never(int, int, int, int)",
        "int even(int, int, int, int)", "int fair(int, int)", "int war(int, int)", "int list(int)", "int wipe()",
        "int old(int, int)", "int seldom()", "int seed(int)", "boolean keep(int)", "boolean again(int)",
        "int count(int)", "long row(int)"};

    private static int wrong = 0;

    private static void due(String what, Object got, Object want) {
        if (!got.equals(want)) {
            wrong++;
            System.out.println(what + ": " + got + ", due is " + want);
        }
    }

    private static void face() {
        Set<String> found = new TreeSet<>();
        Set<String> names = new HashSet<>();
        for (Method m : NamesInBags.class.getDeclaredMethods()) {
            if (!Modifier.isPrivate(m.getModifiers())) {
                due("public " + m, Modifier.isPublic(m.getModifiers()), true);
                due("of an object " + m, Modifier.isStatic(m.getModifiers()), false);
                String types = Arrays.toString(Arrays.stream(m.getParameterTypes()).map(Class::getName).toArray());
                found.add(m.getReturnType().getName() + " " + m.getName() + "(" + types.substring(1, types.length() - 1) + ")");
                names.add(m.getName());
            }
        }
        due("the methods", found, new TreeSet<>(Arrays.asList(FACE)));
        due("public and final", NamesInBags.class.getModifiers(), Modifier.PUBLIC | Modifier.FINAL);
        due("constructors", NamesInBags.class.getDeclaredConstructors().length, 1);
        for (Constructor<?> c : NamesInBags.class.getDeclaredConstructors()) {
            due("constructor", c.toString(), "public NamesInBags()");
        }
        for (Field f : NamesInBags.class.getDeclaredFields()) {
            boolean isNone = f.getName().equals("NONE");
            due("private: " + f, Modifier.isPrivate(f.getModifiers()), !isNone);
        }
        privateNames(NamesInBags.class, names);
        due("classes inside, some twelve", NamesInBags.class.getDeclaredClasses().length <= 12, true);
        for (Class<?> c : NamesInBags.class.getDeclaredClasses()) {
            due("static " + c, Modifier.isStatic(c.getModifiers()), true);
            due("hidden " + c, Modifier.isPublic(c.getModifiers()) || Modifier.isProtected(c.getModifiers()), false);
            privateNames(c, names);
        }
    }

    private static void privateNames(Class<?> c, Set<String> names) {
        for (Method m : c.getDeclaredMethods()) {
            due("seven parameters at most: " + m, m.getParameterCount() <= 7, true);
            if (!Modifier.isPublic(m.getModifiers())) {
                due("a name of the face: " + m, names.contains(m.getName()), false);
            }
        }
        int fields = 0;
        for (Field f : c.getDeclaredFields()) {
            if (Modifier.isStatic(f.getModifiers())) {
                due("final: " + f, Modifier.isFinal(f.getModifiers()), true);
            } else {
                fields++;
            }
        }
        due("some twenty fields: " + c, fields <= 20, true);
    }

    /** Words that LANGUAGE.md rules out, looked for outside comments. */
    private static void words() throws Exception {
        String text = Files.readString(Path.of("src/main/java/NamesInBags.java"));
        String code = text.replaceAll("(?s)/\\*.*?\\*/", " ").replaceAll("//[^\n]*", " ");
        for (String word : new String[] {"->", "::", "synchronized", "finally", "assert ", " try ", "catch", "package ",
            "System.", "Exact", "hashCode", "static {", "volatile", "transient", "instanceof", "double", "float"}) {
            due("no " + word, code.contains(word), false);
        }
        due("imports", code.split("import ", -1).length - 1, 1);
        int line = 0;
        int start = 0;
        for (String l : text.split("\n")) {
            line++;
            // A method or a class begins four or eight deep and ends as deep.
            if (l.matches("(    |        )[^ /*}].*\\) (throws NoSuchElementException )?\\{")) {
                start = line;
            }
            if (l.matches("(    |        )\\}")) {
                due("some sixty lines up to line " + line, start == 0 || line - start <= 60, true);
                start = 0;
            }
        }
    }

    private static long elements = 0;
    private static long objects = 0;

    private static void measure(Object o, Map<Object, Object> seen) throws Exception {
        if (o == null || seen.put(o, o) != null) {
            return;
        }
        objects++;
        if (o.getClass().isArray()) {
            elements += Array.getLength(o);
            if (!o.getClass().getComponentType().isPrimitive()) {
                for (int i = 0; i < Array.getLength(o); i++) {
                    measure(Array.get(o, i), seen);
                }
            }
            return;
        }
        for (Field f : o.getClass().getDeclaredFields()) {
            if (!Modifier.isStatic(f.getModifiers())) {
                elements++;
                f.setAccessible(true);
                if (!f.getType().isPrimitive()) {
                    measure(f.get(o), seen);
                }
            }
        }
    }

    private static void room() throws Exception {
        NamesInBags x = new NamesInBags();
        measure(x, new IdentityHashMap<>());
        System.out.println("an object has " + objects + " objects and arrays, " + elements + " fields and elements");
        due("few objects", objects < 100, true);
        due("few elements", elements < 60000, true);
        for (int p = 0; p < 10; p++) {
            x.person(p % 5);
        }
        x.pack(0, 1023);
        x.drawing(0, 0, 3);
        x.drawing(0, 0, 1);
        other(x);
        com.sun.management.ThreadMXBean threads =
            (com.sun.management.ThreadMXBean) ManagementFactory.getThreadMXBean();
        long id = Thread.currentThread().getId();
        threads.getThreadAllocatedBytes(id);
        long before = threads.getThreadAllocatedBytes(id);
        for (int k = 0; k < 100; k++) {
            calls(x, k);
        }
        long made = threads.getThreadAllocatedBytes(id) - before;
        System.out.println("hundreds of calls made " + made + " bytes");
        due("calls make nothing", made < 100000, true);
    }

    private static void other(NamesInBags x) {
        x.sign('k' << 24 | 'b' << 16);
        x.end(2);
        x.other(0);
    }

    private static void calls(NamesInBags x, int k) {
        x.best(0, 63 << k % 5, k % 10, 1, k % 2);
        x.even(0, 63 << k % 5, 1023, 1);
        x.fair(1023, 1);
        x.known();
        x.ever(k % 10);
        x.run();
        x.begin();
        x.keep(0);
        x.again(0);
    }

    private static final int[] ODD = {Integer.MIN_VALUE, Integer.MIN_VALUE + 1, -65536, -101, -100, -32, -4, -3, -2, -1, 0,
        1, 2, 3, 4, 5, 6, 7, 8, 9, 10, 11, 15, 16, 31, 32, 33, 63, 64, 127, 128, 255, 256, 511, 512, 998, 999, 1000, 1001,
        1022, 1023, 1024, 65535, 65536, Integer.MAX_VALUE - 1, Integer.MAX_VALUE};

    private static final String[] LINES = {"kb", "dl;", "wt", ";s1b", "s6l", "s2t;", "kt;", ";dt", "wl", "x", "s", ";"};

    private static int oddInt(Random g) {
        return g.nextInt(3) == 0 ? ODD[g.nextInt(ODD.length)] : g.nextInt(3) == 0 ? g.nextInt(1024) : g.nextInt(11);
    }

    private static Object oddValue(Class<?> type, Random g) {
        if (type == boolean.class) {
            return g.nextBoolean();
        }
        if (type == long.class) {
            return g.nextBoolean() ? g.nextLong() : g.nextLong() & 0x1111111111L;
        }
        return oddInt(g);
    }

    /** No call throws, whatever it is told in whatever state; but row, and that where the document says so alone. */
    private static void anyArguments() throws Exception {
        Method[] all = NamesInBags.class.getDeclaredMethods();
        Arrays.sort(all, (a, b) -> a.toString().compareTo(b.toString()));
        for (int run = 0; run < 150; run++) {
            Random g = new Random(run);
            NamesInBags x = new NamesInBags();
            for (int k = g.nextInt(11); k > 0; k--) {
                x.person(g.nextInt(6));
            }
            for (int k = g.nextInt(7); k > 0; k--) {
                x.drawing(g.nextInt(3) * k / 6, g.nextInt(2), 1 + g.nextInt(3));
            }
            for (int k = 0; k < 400; k++) {
                Method m = all[g.nextInt(all.length)];
                if (!Modifier.isPublic(m.getModifiers())) {
                    continue;
                }
                if (m.getName().equals("rule") || m.getName().equals("other")) {
                    texts(x, g);
                }
                Object[] told = Arrays.stream(m.getParameterTypes()).map(t -> oddValue(t, g)).toArray();
                due("run " + run + " throws in " + m.getName() + Arrays.toString(told), thrown(x, m, told), "nothing");
            }
        }
    }

    private static void texts(NamesInBags x, Random g) {
        String t = "";
        for (int k = g.nextInt(8); k > 0; k--) {
            t += LINES[g.nextInt(LINES.length)];
        }
        for (int i = 0; i + 4 <= t.length(); i += 4) {
            x.sign(t.charAt(i) << 24 | t.charAt(i + 1) << 16 | t.charAt(i + 2) << 8 | t.charAt(i + 3));
        }
    }

    private static String thrown(NamesInBags x, Method m, Object[] told) throws Exception {
        int numbers = x.count(5);
        try {
            m.invoke(x, told);
        } catch (InvocationTargetException e) {
            boolean isDue = m.getName().equals("row") && e.getCause() instanceof NoSuchElementException
                && ((int) told[0] < 0 || (int) told[0] >= numbers);
            return isDue ? "nothing" : e.getCause().toString();
        }
        boolean missed = m.getName().equals("row") && ((int) told[0] < 0 || (int) told[0] >= numbers);
        return missed ? "none where one is due" : "nothing";
    }

    public static void main(String[] args) throws Exception {
        face();
        words();
        anyArguments();
        room();
        System.out.println(wrong == 0 ? "all is as due" : wrong + " things are not as due");
        if (wrong != 0) {
            System.exit(1);
        }
    }
}
