import java.nio.file.Files;
import java.nio.file.Path;
import java.util.List;
import java.util.function.Predicate;
import java.util.function.Supplier;
import java.util.function.ToIntFunction;

/** Tests of one boundary case each, under the words of the document that name it. */
final class Edges {
    private static final Path DOCUMENT = Path.of("../shared/DOC.md");

    private final Check check;
    private final String document;
    private String words = "";
    private int asked = 0;
    private int tests = 0;

    Edges(String test) throws java.io.IOException {
        check = new Check(test);
        document = folded(Files.readString(DOCUMENT));
    }

    private static String folded(String text) {
        return text.replaceAll("\\s+", " ");
    }

    /** The words must stand under the document's heading, so that no test outlives its sentence. */
    void of(String heading, String sentence, Runnable test) {
        words = heading + ", " + sentence;
        asked = 0;
        tests++;
        int start = document.indexOf(" ## " + heading);
        int end = document.indexOf(" ## ", start + 1);
        String section = start < 0 ? "" : document.substring(start, end < 0 ? document.length() : end);
        check.due(words + ": stands in the document", true, section.contains(folded(sentence)));
        test.run();
        check.due(words + ": has a test", true, asked > 0);
    }

    void due(String call, long want, long got) {
        asked++;
        check.due(words + ": " + call, want, got);
    }

    void due(String call, boolean want, boolean got) {
        asked++;
        check.due(words + ": " + call, want, got);
    }

    /** The nearest numbers that are too small and too large, and the farthest ones. */
    static int[] others(int least, int most) {
        return new int[] {least - 1, most + 1, Integer.MIN_VALUE, Integer.MAX_VALUE};
    }

    /**
     * The call has that answer and changes nothing, nor what can be taken back. Heaps that are made alike are looked
     * at, one ahead of the call and one behind it, as an object is promised for 512 calls alone.
     */
    void refused(String call, int want, Supplier<ColouredHeap> like, ToIntFunction<ColouredHeap> deed) {
        ColouredHeap heap = like.get();
        due(call, want, deed.applyAsInt(heap));
        dueAlike("all behind " + call, Runs.all(like.get()), Runs.all(heap));
        ColouredHeap before = like.get();
        before.undo();
        ColouredHeap behind = like.get();
        deed.applyAsInt(behind);
        behind.undo();
        dueAlike("all behind " + call + " and undo", Runs.all(before), Runs.all(behind));
        dueAlike("the eldest step behind " + call, Runs.eldest(like.get()), eldestBehind(like.get(), deed));
    }

    private static List<String> eldestBehind(ColouredHeap heap, ToIntFunction<ColouredHeap> deed) {
        deed.applyAsInt(heap);
        return Runs.eldest(heap);
    }

    void refused(String call, boolean want, Supplier<ColouredHeap> like, Predicate<ColouredHeap> deed) {
        refused(call, want ? 1 : 0, like, heap -> deed.test(heap) ? 1 : 0);
    }

    /** What both look like, line by line. */
    void dueAlike(String what, List<String> want, List<String> got) {
        due(what + ", lines", want.size(), got.size());
        for (int i = 0; i < want.size() && i < got.size(); i++) {
            asked++;
            check.due(words + ": " + what, want.get(i), got.get(i));
        }
    }

    void close() {
        System.out.println(tests + " boundary cases");
        check.close();
    }
}
