import java.lang.reflect.Method;
import java.nio.charset.StandardCharsets;
import java.nio.file.Files;
import java.nio.file.Path;
import java.util.regex.Matcher;
import java.util.regex.Pattern;

/** Runs the examples of README.md line by line: each call must answer what is said behind it. */
public final class ReadmeTest {
    private static final Pattern CALL = Pattern.compile("x\\.(\\w+)\\(([-\\d, ]*)\\); +// (-?\\d+): .*");
    private static final Pattern TEXT = Pattern.compile("type\\(x, \"([^\"]*)\"\\);");

    private final DiffusingRoutes x = new DiffusingRoutes();

    private ReadmeTest() {
    }

    public static void main(String[] args) throws Exception {
        String[] blocks = Files.readString(Path.of("README.md"), StandardCharsets.UTF_8).split("```");
        Due.is("three examples", blocks.length, 7);
        new ReadmeTest().runs(blocks[1]);
        Due.is("the way to type is the one below", flat(source()).contains(flat(blocks[3].substring(4))) ? 1 : 0, 1);
        new ReadmeTest().runs(blocks[5]);
        Due.closes("ReadmeTest");
    }

    private static String source() throws Exception {
        return Files.readString(Path.of("src/test/java/ReadmeTest.java"), StandardCharsets.UTF_8);
    }

    private static String flat(String code) {
        return code.replaceAll("\\s+", " ").trim();
    }

    private void runs(String block) throws Exception {
        for (String line : block.split("\n")) {
            Matcher call = CALL.matcher(line);
            Matcher text = TEXT.matcher(line);
            if (call.matches()) {
                Due.is(line, answer(call.group(1), call.group(2)), Integer.parseInt(call.group(3)));
            } else if (text.matches()) {
                type(x, text.group(1));
            } else if (line.startsWith("while (x.count(2) > 0) {")) {
                rests();
            } else {
                Due.is("no other lines: " + line, isPlain(line) ? 1 : 0, 1);
            }
        }
    }

    /** Lines that are run with another one, or by themselves. */
    private static boolean isPlain(String line) {
        return line.equals("java") || line.equals("}") || line.startsWith("    x.step();")
            || line.equals("DiffusingRoutes x = new DiffusingRoutes();");
    }

    private void rests() {
        for (int i = 0; i < 200 && x.count(2) > 0; i++) {
            x.step();
        }
    }

    private long answer(String name, String numbers) throws Exception {
        String[] parts = numbers.isEmpty() ? new String[0] : numbers.split(", ");
        Class<?>[] types = new Class<?>[parts.length];
        Object[] values = new Object[parts.length];
        for (int i = 0; i < parts.length; i++) {
            types[i] = int.class;
            values[i] = Integer.valueOf(parts[i]);
        }
        Method method = DiffusingRoutes.class.getMethod(name, types);
        return ((Number) method.invoke(x, values)).longValue();
    }

    static void type(DiffusingRoutes x, String text) {
        int length = x.count(6) + text.length();
        for (int i = 0; i < text.length(); i += 20) {
            int[] five = new int[5];
            for (int k = 0; k < 20; k++) {
                five[k / 4] = five[k / 4] << 8 | (i + k < text.length() ? text.charAt(i + k) : ' ');
            }
            x.feed(five[0], five[1], five[2], five[3], five[4]);
        }
        x.end(length);
    }
}
