import java.io.IOException;
import java.lang.reflect.Constructor;
import java.lang.reflect.Field;
import java.lang.reflect.Method;
import java.lang.reflect.Modifier;
import java.nio.file.Files;
import java.nio.file.Path;
import java.util.Arrays;
import java.util.Set;
import java.util.TreeSet;
import java.util.regex.Matcher;
import java.util.regex.Pattern;

/** The public face of the document, and the rules of the language that a look at the file can tell. */
public final class FaceTest {
    private static final String[] FACE = {
        "int set(int,int)", "int court(int)", "int dispute(int,int,int)", "int listed(int)", "int disputant(int,int)",
        "int of(int,int)", "int change(int,int,int)", "int turning(int,int)", "int falls(int,int)", "int go(int)",
        "int now(int)", "int ahead(int,int,int)", "int wrong(int,int)", "int right(int,int)", "int stands()",
        "int calm(int,int)", "int heightFor(int,int)", "int spreadFor(int,int)", "int kindFor(int,int)",
        "int causeFor(int,int,int)", "int against(int,int)", "int silence(int,int)", "int fits(int,int)",
        "int height(int,int)", "int kinds(int,int)", "int toss(int)", "long odds(int,int,int,int)", "int seed(int)",
        "int feed(int,int)", "int wipe()", "int text()", "int hold(int,int)", "int as(int,int)",
        "int sheet(int,int,int)", "int write(int,int,int)", "int copy(int,int,int,int,int)", "int load(int)",
        "int judge(int)", "int image()", "int undo()", "int tear()", "int count(int)", "int status(int)",
    };

    public static void main(String[] args) throws IOException {
        face();
        members();
        words();
        Due.end("FaceTest");
    }

    private static void face() {
        Set<String> seen = new TreeSet<>();
        for (Method m : ToastCourt.class.getDeclaredMethods()) {
            if (!Modifier.isPrivate(m.getModifiers())) {
                StringBuilder in = new StringBuilder();
                for (Class<?> p : m.getParameterTypes()) {
                    in.append(in.length() == 0 ? "" : ",").append(p);
                }
                seen.add(m.getReturnType() + " " + m.getName() + "(" + in + ")");
                Due.due(m + " is public, of an object", m.getModifiers(), Modifier.PUBLIC);
            }
        }
        Set<String> want = new TreeSet<>(Arrays.asList(FACE));
        Due.due("the face " + seen, seen.equals(want) ? 1 : 0, 1);
        Due.due("public and final", ToastCourt.class.getModifiers(), Modifier.PUBLIC | Modifier.FINAL);
        for (Constructor<?> c : ToastCourt.class.getDeclaredConstructors()) {
            Due.due(c + " is public and takes nothing", c.getModifiers() + c.getParameterCount(), Modifier.PUBLIC);
        }
    }

    private static void members() {
        Set<String> names = new TreeSet<>();
        for (String row : FACE) {
            names.add(row.substring(row.indexOf(' ') + 1, row.indexOf('(')));
        }
        for (Field f : ToastCourt.class.getDeclaredFields()) {
            Due.due(f + " is private", Modifier.isPrivate(f.getModifiers()) ? 1 : 0, 1);
        }
        for (Class<?> inside : ToastCourt.class.getDeclaredClasses()) {
            Due.due(inside + " is static", Modifier.isStatic(inside.getModifiers()) ? 1 : 0, 1);
            for (Method m : inside.getDeclaredMethods()) {
                Due.due(m + " has a name of its own", names.contains(m.getName()) ? 1 : 0, 0);
            }
        }
        for (Method m : ToastCourt.class.getDeclaredMethods()) {
            boolean isDouble = Modifier.isPrivate(m.getModifiers()) && names.contains(m.getName());
            Due.due(m + " has a name of its own", isDouble ? 1 : 0, 0);
            Due.due(m + " takes at most seven", Math.max(7, m.getParameterCount()), 7);
        }
    }

    private static void words() throws IOException {
        String file = Files.readString(Path.of("src/main/java/ToastCourt.java"));
        String code = file.replaceAll("(?s)/\\*.*?\\*/", " ").replaceAll("//[^\n]*", " ");
        Pattern bad = Pattern.compile("\\b(throws?|try|catch|finally|synchronized|assert|import|package|var|volatile"
            + "|transient|native|record|Object|System\\.(?!arraycopy)\\w+|\\w+Exact|hashCode|toString)\\b|->|::|@");
        Matcher found = bad.matcher(code);
        while (found.find()) {
            Due.due("the file has \"" + found.group() + "\"", 1, 0);
        }
        for (int i = 0; i < file.length(); i++) {
            if (file.charAt(i) > 126) {
                Due.due("a sign above 126 at " + i, 1, 0);
            }
        }
        Due.due("one file, some text", code.length() > 1000 ? 1 : 0, 1);
    }
}
