import java.lang.reflect.Constructor;
import java.lang.reflect.Field;
import java.lang.reflect.Method;
import java.lang.reflect.Modifier;
import java.nio.charset.StandardCharsets;
import java.nio.file.Files;
import java.nio.file.Path;
import java.util.ArrayList;
import java.util.Arrays;
import java.util.List;
import java.util.TreeSet;
import java.util.regex.Matcher;
import java.util.regex.Pattern;

/** The face of the document, and those rules of LANGUAGE.md that can be seen from outside; the room that runs take. */
public final class LanguageTest {
    private static final String FACE = "router(int,int)int between(int,int,int)int message(int,int)int terms(int,int)int "
        + "feed(int,int,int,int,int)int end(int)int row()int blots()int law()int orders()int fault()int stopped()int "
        + "force(int)int link(int,int,int)int step()int cut(int)int undo()int path(int,int)int loops()int least(int)int "
        + "quiet()int then(int)int seen(int,int)int forget()int canBe()int ask(int)int few(int,int)long compare(int)int "
        + "days(int,int)int drawn(int,int)int image(int)int back(int)int count(int)int status()int";

    private LanguageTest() {
    }

    public static void main(String[] args) throws Exception {
        face();
        members();
        source(Files.readString(Path.of("src/main/java/DiffusingRoutes.java"), StandardCharsets.UTF_8));
        room();
        Due.closes("LanguageTest");
    }

    private static void must(String what, boolean so) {
        Due.is(what, so ? 1 : 0, 1);
    }

    private static String told(Method m) {
        List<String> types = new ArrayList<>();
        for (Class<?> type : m.getParameterTypes()) {
            types.add(type.getSimpleName());
        }
        return m.getName() + "(" + String.join(",", types) + ")" + m.getReturnType().getSimpleName();
    }

    private static void face() {
        Class<?> face = DiffusingRoutes.class;
        must("public and final", Modifier.isPublic(face.getModifiers()) && Modifier.isFinal(face.getModifiers()));
        TreeSet<String> due = new TreeSet<>(Arrays.asList(FACE.split(" ")));
        TreeSet<String> found = new TreeSet<>();
        TreeSet<String> publicNames = new TreeSet<>();
        for (Method m : face.getDeclaredMethods()) {
            if (!Modifier.isPrivate(m.getModifiers())) {
                found.add(told(m));
                publicNames.add(m.getName());
            }
        }
        must("the methods of the document: " + found, found.equals(due));
        for (Method m : face.getDeclaredMethods()) {
            must("private " + m.getName(), !Modifier.isPrivate(m.getModifiers()) || !publicNames.contains(m.getName()));
        }
        TreeSet<String> constants = new TreeSet<>();
        for (Field f : face.getDeclaredFields()) {
            if (!Modifier.isPrivate(f.getModifiers())) {
                constants.add(f.getName());
            }
        }
        must("the constants of the document", constants.equals(new TreeSet<>(List.of("FAR", "NONE"))));
        Constructor<?>[] constructors = face.getDeclaredConstructors();
        must("one constructor", constructors.length == 1 && constructors[0].getParameterCount() == 0);
    }

    private static void members() {
        Class<?>[] inside = DiffusingRoutes.class.getDeclaredClasses();
        must("some twelve classes", inside.length < 12);
        List<Class<?>> all = new ArrayList<>(Arrays.asList(inside));
        for (Class<?> c : inside) {
            must(c + " is static", Modifier.isStatic(c.getModifiers()));
        }
        all.add(DiffusingRoutes.class);
        for (Class<?> c : all) {
            int own = 0;
            for (Field f : c.getDeclaredFields()) {
                boolean isStatic = Modifier.isStatic(f.getModifiers());
                own += isStatic ? 0 : 1;
                must(f + " is final", !isStatic || Modifier.isFinal(f.getModifiers()));
            }
            must(c + " has some twenty fields", own <= 20);
            for (Method m : c.getDeclaredMethods()) {
                must(m + " takes seven at most", m.getParameterCount() <= 7);
                must(m + " is not made by the compiler", !m.isSynthetic());
            }
        }
    }

    private static void source(String text) {
        String code = text.replaceAll("(?s)/\\*.*?\\*/", "").replaceAll("//.*", "").replaceAll("\"[^\"]*\"", "\"\"");
        for (String word : new String[] {"throw", "throws", "try", "catch", "finally", "synchronized", "assert", "native",
            "volatile", "transient", "package", "protected", "var", "yield", "double", "float"}) {
            must("no " + word, !Pattern.compile("\\b" + word + "\\b").matcher(code).find());
        }
        for (String sign : new String[] {"->", "::", "Exact", "System.out", "MAX_VALUE", "MIN_VALUE", "while (true)", "for (;;)"}) {
            must("no " + sign, !code.contains(sign));
        }
        must("no sign beyond 126", text.chars().allMatch(c -> c == '\n' || c >= 32 && c < 127));
        Matcher imports = Pattern.compile("import ([\\w.]+);").matcher(code);
        while (imports.find()) {
            must("import " + imports.group(1), List.of("java.util.Arrays", "java.util.List", "java.util.ArrayList").contains(imports.group(1)));
        }
        Matcher calls = Pattern.compile("\\b(Math|Integer|Long|Arrays|System|String)\\.(\\w+)").matcher(code);
        while (calls.find()) {
            must(calls.group(), List.of("min", "max", "abs", "bitCount", "fill", "copyOf", "copyOfRange", "arraycopy").contains(calls.group(2)));
        }
        lengths(text);
    }

    private static void lengths(String text) {
        String[] lines = text.split("\n");
        int start = 0;
        for (int i = 0; i < lines.length; i++) {
            if (lines[i].matches(" {4}( {4})?(public|private) [^=;]*\\(.*\\{")) {
                start = i;
            }
            if (lines[i].matches(" {4}( {4})?}")) {
                must("a short method at line " + (start + 1), i - start <= 60 || lines[start].contains(" class "));
            }
        }
    }

    /** A run of dear calls makes few objects: rows are made once and used again. */
    private static void room() {
        com.sun.management.ThreadMXBean beans =
            (com.sun.management.ThreadMXBean) java.lang.management.ManagementFactory.getThreadMXBean();
        long thread = Thread.currentThread().getId();
        for (int round = 0; round < 2; round++) {
            long before = beans.getThreadAllocatedBytes(thread);
            DiffusingRoutes x = new DiffusingRoutes();
            long made = beans.getThreadAllocatedBytes(thread) - before;
            must("a new object is small: " + made, made < 120000);
            int[] text = "ranks 1;bars if 1=2;".chars().toArray();
            int[] five = {Due.four(text, 0), Due.four(text, 4), Due.four(text, 8), Due.four(text, 12), Due.four(text, 16)};
            before = beans.getThreadAllocatedBytes(thread);
            // Fourteen calls each time: as many as an object is used for.
            for (int i = 0; i < 36; i++) {
                x.feed(five[0], five[1], five[2], five[3], five[4]);
                x.end(19);
                if (i % 2 == 0) {
                    x.law();
                } else {
                    x.orders();
                }
                busies(x, i);
            }
            long used = beans.getThreadAllocatedBytes(thread) - before;
            must("calls make little: " + used, used < 16000);
        }
    }

    private static void busies(DiffusingRoutes x, int i) {
        x.link(i % 7, (i + 1 + i / 7) % 7, i % 50);
        x.quiet();
        x.then(3);
        x.compare(-1);
        x.days(i, 60);
        x.image(i % 2);
        x.few(20, 99);
        x.least(5);
        x.ask(1);
        x.step();
        x.undo();
    }
}
