import java.lang.reflect.Method;
import java.lang.reflect.Modifier;
import java.nio.file.Files;
import java.nio.file.Path;
import java.util.ArrayList;
import java.util.List;
import java.util.TreeMap;
import java.util.regex.Matcher;
import java.util.regex.Pattern;

/** README.md tells the truth: its examples are played, and its tables have every call once, with its parameters. */
public final class ReadmeTest {
    private static final Pattern BLOCK = Pattern.compile("(?s)```java\n(.*?)```");
    private static final Pattern CALL = Pattern.compile("heap\\.(\\w+)\\(([^)]*)\\); +// (-?\\w+).*");
    private static final Pattern TOLD = Pattern.compile("tell\\(heap, \"(.*)\"\\); +// (-?\\w+).*");
    private static final Pattern ROW = Pattern.compile("(?m)^\\| `(\\w+)\\(([^)]*)\\)` \\|");
    private static final String MADE = "ColouredHeap heap = new ColouredHeap();";
    private static final int MOST_CALLS = 512;

    private static final TreeMap<String, Method> FACE = new TreeMap<>();

    private final Check check = new Check("ReadmeTest");

    public static void main(String[] args) throws Exception {
        for (Method method : ColouredHeap.class.getDeclaredMethods()) {
            if (Modifier.isPublic(method.getModifiers())) {
                FACE.put(method.getName(), method);
            }
        }
        ReadmeTest test = new ReadmeTest();
        String readme = Files.readString(Path.of("README.md"));
        test.examples(readme);
        test.tables(readme);
        test.tests(readme);
        test.check.close();
    }

    /** A block that makes a heap is played; the other one, which tells how texts come, stands in this file, too. */
    private void examples(String readme) throws Exception {
        Matcher block = BLOCK.matcher(readme);
        int played = 0;
        int shown = 0;
        while (block.find()) {
            if (block.group(1).startsWith(MADE)) {
                play(block.group(1));
                played++;
            } else {
                String own = Files.readString(Path.of("src/test/java/ReadmeTest.java"));
                check.due("the way to tell a text is as here", true, folded(own).contains(folded(block.group(1))));
                shown++;
            }
        }
        check.due("examples", 3, played);
        check.due("ways to tell a text", 1, shown);
    }

    private void play(String example) throws Exception {
        ColouredHeap heap = new ColouredHeap();
        String[] lines = example.split("\n");
        check.due("an example stays within what is promised", true, lines.length < MOST_CALLS);
        for (int i = 1; i < lines.length; i++) {
            Matcher told = TOLD.matcher(lines[i]);
            Matcher call = CALL.matcher(lines[i]);
            if (told.matches()) {
                check.due(lines[i], told.group(2), String.valueOf(tell(heap, told.group(1))));
            } else if (call.matches() && FACE.containsKey(call.group(1))) {
                check.due(lines[i], call.group(3), answer(heap, FACE.get(call.group(1)), call.group(2)));
            } else {
                check.due(lines[i] + " is a call with its answer", true, false);
            }
        }
    }

    private static String answer(ColouredHeap heap, Method method, String list) throws Exception {
        List<Object> values = new ArrayList<>();
        for (String value : parts(list)) {
            boolean isTruth = value.equals("true") || value.equals("false");
            values.add(isTruth ? (Object) Boolean.valueOf(value) : (Object) Integer.valueOf(value));
        }
        return String.valueOf(method.invoke(heap, values.toArray()));
    }

    private static String[] parts(String list) {
        return list.isEmpty() ? new String[0] : list.split(", ");
    }

    static int tell(ColouredHeap heap, String text) {
        heap.end(0);
        for (int i = 0; i < text.length(); i += 20) {
            int[] four = new int[5];
            for (int k = 0; k < 20; k++) {
                int sign = i + k < text.length() ? text.charAt(i + k) : ' ';
                four[k / 4] = four[k / 4] << 8 | sign;
            }
            heap.feed(four[0], four[1], four[2], four[3], four[4]);
        }
        heap.end(text.length());
        return heap.text();
    }

    private static String folded(String text) {
        return text.replaceAll("\\s+", " ").strip();
    }

    private void tables(String readme) {
        TreeMap<String, Integer> rows = new TreeMap<>();
        Matcher row = ROW.matcher(readme);
        while (row.find()) {
            rows.merge(row.group(1), 1, Integer::sum);
            Method method = FACE.get(row.group(1));
            int parameters = method == null ? -1 : method.getParameterCount();
            check.due("parameters of " + row.group(1), parameters, parts(row.group(2)).length);
        }
        for (String name : FACE.keySet()) {
            check.due("rows of " + name, 1, rows.getOrDefault(name, 0));
        }
    }

    /** Every test that .ci/run plays is told of. */
    private void tests(String readme) throws Exception {
        try (var files = Files.list(Path.of("src/test/java"))) {
            for (Path file : files.sorted().toList()) {
                String name = file.getFileName().toString().replace(".java", "");
                if (name.endsWith("Test")) {
                    check.due("a row of " + name, true, readme.contains("\n| `" + name + "` |"));
                }
            }
        }
    }
}
