import java.io.IOException;
import java.lang.reflect.Constructor;
import java.lang.reflect.Field;
import java.lang.reflect.Method;
import java.lang.reflect.Modifier;
import java.nio.file.Files;
import java.nio.file.Path;
import java.util.ArrayList;
import java.util.Arrays;
import java.util.List;
import java.util.TreeSet;

/** The public face is the document's and no more, and the source keeps to the plainest rules of LANGUAGE.md. */
public final class FaceTest {
    private static final String[] METHODS = {
        "able/3", "asOne/2", "branch/0", "can/2", "customer/2", "drift/1", "fault/0", "feed/1", "goBack/1", "has/1", "hat/1",
        "judge/0", "keep/1", "lend/3", "loan/3", "look/0", "month/1", "must/2", "order/1", "owes/2", "part/1", "payBack/3",
        "plan/3", "see/2", "seed/1", "spend/2", "spending/1", "tear/0", "told/1", "undo/0", "wage/2", "write/2"};
    private static final String[] FIELDS = {"FULL", "NONE", "NOT", "OUTSIDE", "UNKNOWN"};

    public static void main(String[] args) throws IOException {
        face();
        privateNames(BodyAccounts.class);
        for (Class<?> inside : BodyAccounts.class.getDeclaredClasses()) {
            Check.due(inside + " is static", Modifier.isStatic(inside.getModifiers()) ? 1 : 0, 1);
            privateNames(inside);
        }
        language();
        Check.end();
    }

    private static void face() {
        TreeSet<String> methods = new TreeSet<>();
        for (Method m : BodyAccounts.class.getDeclaredMethods()) {
            if (!Modifier.isPrivate(m.getModifiers())) {
                methods.add(m.getName() + "/" + m.getParameterCount());
                Check.due(m + " is public", Modifier.isPublic(m.getModifiers()) ? 1 : 0, 1);
                Check.due(m + " answers int", m.getReturnType() == int.class ? 1 : 0, 1);
            }
        }
        Check.due("methods " + methods, methods.equals(new TreeSet<>(Arrays.asList(METHODS))) ? 1 : 0, 1);
        TreeSet<String> fields = new TreeSet<>();
        for (Field f : BodyAccounts.class.getDeclaredFields()) {
            if (!Modifier.isPrivate(f.getModifiers())) {
                fields.add(f.getName());
            }
        }
        Check.due("fields " + fields, fields.equals(new TreeSet<>(Arrays.asList(FIELDS))) ? 1 : 0, 1);
        Constructor<?>[] makers = BodyAccounts.class.getDeclaredConstructors();
        Check.due("constructors", makers.length, 1);
        Check.due("the constructor is public", Modifier.isPublic(makers[0].getModifiers()) ? 1 : 0, 1);
        Check.due("the class is public and final", BodyAccounts.class.getModifiers(), Modifier.PUBLIC | Modifier.FINAL);
        Check.due("NONE", BodyAccounts.NONE, -1);
        Check.due("UNKNOWN", BodyAccounts.UNKNOWN, -1000000001);
        Check.due("OUTSIDE", BodyAccounts.OUTSIDE, -1000000002);
        Check.due("NOT", BodyAccounts.NOT, -1000000003);
        Check.due("FULL", BodyAccounts.FULL, -1000000004);
    }

    private static void privateNames(Class<?> held) {
        List<String> face = new ArrayList<>();
        for (String method : METHODS) {
            face.add(method.substring(0, method.indexOf('/')));
        }
        for (Method m : held.getDeclaredMethods()) {
            boolean own = held != BodyAccounts.class || Modifier.isPrivate(m.getModifiers());
            Check.due(m + " bears a public name", own && face.contains(m.getName()) ? 1 : 0, 0);
            Check.due(m + " takes more than seven", m.getParameterCount() > 7 ? 1 : 0, 0);
        }
    }

    private static void language() throws IOException {
        String source = Files.readString(Path.of("src/main/java/BodyAccounts.java"));
        String code = source.replaceAll("(?s)/\\*.*?\\*/", " ").replaceAll("//[^\n]*", " ");
        for (String word : new String[] {"throw", "throws", "try", "catch", "synchronized", "assert", "import", "package"}) {
            Check.due("'" + word + "' stands in the source", code.matches("(?s).*\\b" + word + "\\b.*") ? 1 : 0, 0);
        }
        for (String sign : new String[] {"->", "::"}) {
            Check.due("'" + sign + "' stands in the source", code.contains(sign) ? 1 : 0, 0);
        }
    }
}
