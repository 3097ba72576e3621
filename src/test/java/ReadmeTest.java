import java.io.IOException;
import java.lang.reflect.Method;
import java.lang.reflect.Modifier;
import java.nio.file.DirectoryStream;
import java.nio.file.Files;
import java.nio.file.Path;
import java.util.HashMap;
import java.util.Map;
import java.util.regex.Matcher;
import java.util.regex.Pattern;

/** README.md: its lines of calls answer what stands behind them, and it names each call and each test. */
public final class ReadmeTest {
    private static final Pattern CALL = Pattern.compile("court\\.(\\w+)\\(([^)]*)\\);\\s+// (-?\\d+): \\S.*");

    public static void main(String[] args) throws IOException, ReflectiveOperationException {
        String page = Files.readString(Path.of("README.md"));
        Map<String, Method> face = face();
        lines(page, face);
        for (String name : face.keySet()) {
            Due.due("README names " + name, page.contains("`" + name + "`") ? 1 : 0, 1);
        }
        try (DirectoryStream<Path> tests = Files.newDirectoryStream(Path.of("src/test/java"), "*.java")) {
            for (Path test : tests) {
                String name = test.getFileName().toString().replace(".java", "");
                Due.due("README names " + name, page.contains("`" + name + "`") ? 1 : 0, 1);
            }
        }
        Due.end("ReadmeTest");
    }

    private static Map<String, Method> face() {
        Map<String, Method> face = new HashMap<>();
        for (Method m : ToastCourt.class.getDeclaredMethods()) {
            if (Modifier.isPublic(m.getModifiers())) {
                face.put(m.getName(), m);
            }
        }
        return face;
    }

    /** All blocks of Java are one run on one object. */
    private static void lines(String page, Map<String, Method> face) throws ReflectiveOperationException {
        ToastCourt court = new ToastCourt();
        boolean isJava = false;
        int called = 0;
        for (String line : page.split("\n")) {
            if (line.startsWith("```")) {
                isJava = line.equals("```java");
            } else if (isJava && !line.equals("ToastCourt court = new ToastCourt();")) {
                Matcher call = CALL.matcher(line);
                boolean isCall = call.matches() && face.containsKey(call.group(1));
                Due.due("a call with its answer: " + line, isCall ? 1 : 0, 1);
                if (isCall) {
                    called++;
                    Number got = (Number) face.get(call.group(1)).invoke(court, arguments(call.group(2)));
                    Due.due(line, got.longValue(), Long.parseLong(call.group(3)));
                }
            }
        }
        Due.due("README has calls", called > 30 ? 1 : 0, 1);
    }

    private static Object[] arguments(String told) {
        if (told.isEmpty()) {
            return new Object[0];
        }
        String[] each = told.split(", ");
        Object[] numbers = new Object[each.length];
        for (int k = 0; k < each.length; k++) {
            numbers[k] = Integer.decode(each[k]);
        }
        return numbers;
    }
}
