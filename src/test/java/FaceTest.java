import java.lang.reflect.Constructor;
import java.lang.reflect.Field;
import java.lang.reflect.Method;
import java.lang.reflect.Modifier;
import java.nio.file.Files;
import java.nio.file.Path;
import java.util.ArrayList;
import java.util.List;
import java.util.TreeSet;
import java.util.regex.Matcher;
import java.util.regex.Pattern;

/** The class has the document's face and no other, and its file keeps to the rules of LANGUAGE.md that a text shows. */
public final class FaceTest {
    private static final String[] FACE = {
        "int feed(int, int, int, int, int)", "int end(int)", "int text()", "int fault(int)", "boolean by(int)",
        "int make(int, int)", "int load(int, int, int)", "boolean store(int, int, int)", "boolean drop(int)",
        "boolean copy(int, int)", "int begin(int, int, int)", "int finish(int, int)", "boolean start()",
        "int choose()", "int day(int)", "int played(int)", "int years(int, int)", "int undo()", "int root(int)",
        "int at(int)", "int forward(int)", "int page(int, int)", "int is(int)", "boolean marked(int)",
        "int book(int, int)", "int foretold(int, int)", "int paces(int)", "int current(int)", "boolean reached(int)",
        "int reach(boolean)", "int dead()", "int stale()", "boolean safe()", "int far(int)", "int retained(int)",
        "int pack()", "int till()", "int alike()", "int poorest()", "int gaps(int)", "int shape(int, int)",
        "boolean same(int, int)", "int chain(int)", "int said(int, int)", "int whose()", "int ledger(int)",
        "int image()", "int back()", "int about(int)"
    };

    private static final String[] FORBIDDEN = {
        "throw", "throws", "try", "catch", "finally", "synchronized", "assert", "protected", "Object", "Exception",
        "hashCode", "volatile", "transient", "native", "Exact", "System\\.(?!arraycopy)\\w+", "->\\s*\\{?\\s*new",
        "::", "import (?!java\\.util\\.(Arrays|ArrayList|List|Iterator);)"
    };

    public static void main(String[] args) throws Exception {
        Check check = new Check("FaceTest");
        members(check);
        rules(check);
        check.close();
    }

    private static void members(Check check) {
        TreeSet<String> due = new TreeSet<>(List.of(FACE));
        TreeSet<String> seen = new TreeSet<>();
        TreeSet<String> hidden = new TreeSet<>();
        for (Method method : ColouredHeap.class.getDeclaredMethods()) {
            if (Modifier.isPrivate(method.getModifiers()) || method.isSynthetic()) {
                hidden.add(method.getName());
            } else {
                seen.add(face(method));
            }
        }
        check.due("the methods", due.toString(), seen.toString());
        for (String line : FACE) {
            String name = line.substring(line.indexOf(' ') + 1, line.indexOf('('));
            check.due("a private method named " + name, false, hidden.contains(name));
        }
        for (Field field : ColouredHeap.class.getDeclaredFields()) {
            boolean isPrivate = Modifier.isPrivate(field.getModifiers());
            check.due("field " + field.getName() + " is hidden", !field.getName().equals("NONE"), isPrivate);
        }
        check.due("NONE", -1, ColouredHeap.NONE);
        Constructor<?>[] makers = ColouredHeap.class.getDeclaredConstructors();
        check.due("constructors", 1, makers.length);
        check.due("its constructor is public", true, Modifier.isPublic(makers[0].getModifiers()));
        check.due("the class", Modifier.PUBLIC | Modifier.FINAL, ColouredHeap.class.getModifiers());
        for (Class<?> inside : ColouredHeap.class.getDeclaredClasses()) {
            check.due(inside.getName() + " is static", true, Modifier.isStatic(inside.getModifiers()));
            check.due(inside.getName() + " has few fields", true, fields(inside) <= 20);
        }
        check.due("classes", true, ColouredHeap.class.getDeclaredClasses().length < 12);
    }

    private static String face(Method method) {
        List<String> types = new ArrayList<>();
        for (Class<?> type : method.getParameterTypes()) {
            types.add(type.getName());
        }
        String list = types.toString();
        String inner = list.substring(1, list.length() - 1);
        return method.getReturnType().getName() + " " + method.getName() + "(" + inner + ")";
    }

    private static int fields(Class<?> inside) {
        int fields = 0;
        for (Field field : inside.getDeclaredFields()) {
            fields += Modifier.isStatic(field.getModifiers()) ? 0 : 1;
        }
        return fields;
    }

    private static void rules(Check check) throws Exception {
        String file = Files.readString(Path.of("src/main/java/ColouredHeap.java"));
        String bare = file.replaceAll("(?s)/\\*.*?\\*/", "").replaceAll("//.*", "");
        for (String word : FORBIDDEN) {
            String edge = Character.isLetter(word.charAt(0)) ? "\\b" : "";
            Matcher matcher = Pattern.compile(edge + word + edge).matcher(bare);
            check.due("uses " + word, false, matcher.find());
        }
        check.due("signs that are not plain", 0, file.chars().filter(sign -> sign > 127).count());
    }
}
