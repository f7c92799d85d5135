import java.util.ArrayList;
import java.util.List;

/** Beginnings that several tests go on from, and how all is. */
final class Runs {
    private Runs() {
    }

    /** Puts the signs onto an empty tape. */
    static void tape(ColouredHeap heap, String signs) {
        heap.end(0);
        for (int i = 0; i < signs.length(); i += 20) {
            int[] four = new int[5];
            for (int k = 0; k < 20; k++) {
                int sign = i + k < signs.length() ? signs.charAt(i + k) : 0;
                four[k / 4] = four[k / 4] << 8 | sign;
            }
            heap.feed(four[0], four[1], four[2], four[3], four[4]);
        }
        heap.end(signs.length());
    }

    static int tell(ColouredHeap heap, String text) {
        tape(heap, text);
        return heap.text();
    }

    /** A new heap that is ruled by the text. */
    static ColouredHeap ruled(String text) {
        ColouredHeap heap = new ColouredHeap();
        heap.by(tell(heap, text));
        return heap;
    }

    /**
     * Page 0 has a dead object at 0, one of two fields at 1, dead ones at 4 and 6; root 4 has one of three fields at
     * 8 on page 1, whose fields 0 and 1 lead to 1.
     */
    static ColouredHeap shared() {
        ColouredHeap heap = new ColouredHeap();
        heap.make(0, 0);
        heap.make(1, 2);
        heap.make(2, 1);
        heap.make(3, 0);
        heap.make(4, 3);
        heap.store(4, 0, 1);
        heap.store(4, 1, 1);
        for (int root = 0; root < 4; root++) {
            heap.drop(root);
        }
        return heap;
    }

    /** The same, marked, page 0 being chosen: the object at 1 is to be moved. */
    static ColouredHeap moving() {
        ColouredHeap heap = shared();
        heap.start();
        heap.day(2);
        heap.choose();
        return heap;
    }

    /** The same with all other pages in use, so that there is no room to move to. */
    static ColouredHeap full() {
        ColouredHeap heap = moving();
        for (int i = 0; i < 13; i++) {
            heap.make(5, 3);
        }
        return heap;
    }

    /** Idle, all of it on page 0: root 0 leads to 0, whose field leads to 2, whose field leads to 4 and so on to 6. */
    static ColouredHeap row() {
        ColouredHeap heap = new ColouredHeap();
        for (int i = 0; i < 4; i++) {
            heap.make(i, 1);
        }
        for (int i = 0; i < 3; i++) {
            heap.store(i, 0, i + 1);
        }
        for (int root = 1; root < 4; root++) {
            heap.drop(root);
        }
        return heap;
    }

    /** Sixteen objects of three fields fill all pages; root 5 leads to the latest, field 0 of each to the one before. */
    static ColouredHeap filled() {
        ColouredHeap heap = new ColouredHeap();
        for (int i = 0; i < 16; i++) {
            heap.make(0, 3);
            heap.store(0, 0, 5);
            heap.copy(5, 0);
        }
        heap.drop(0);
        return heap;
    }

    /** An empty heap at that clock: three ticks take it from idle to idle. */
    static ColouredHeap atClock(int clock) {
        ColouredHeap heap = new ColouredHeap();
        for (int left = clock; left > 0; left -= 60) {
            heap.day(Math.min(left, 60));
        }
        return heap;
    }

    /** The words, roots and pages as they are when all that can be has been taken back, in 108 calls at most. */
    static List<String> eldest(ColouredHeap heap) {
        for (int i = 0; i < 30; i++) {
            heap.undo();
        }
        List<String> all = new ArrayList<>();
        for (int i = 0; i < 64; i++) {
            all.add("at " + i + ": " + heap.at(i));
        }
        for (int i = 0; i < 6; i++) {
            all.add("root " + i + ": " + heap.root(i));
        }
        for (int page = 0; page < 8; page++) {
            all.add("page " + page + ": " + heap.page(page, 0));
        }
        return all;
    }

    /** All that can be seen of what is kept, in 321 calls. */
    static List<String> all(ColouredHeap heap) {
        List<String> all = new ArrayList<>();
        for (int i = 0; i < 64; i++) {
            all.add("at " + i + ": " + heap.at(i) + ", forward " + heap.forward(i) + ", " + heap.marked(i));
        }
        for (int page = 0; page < 8; page++) {
            all.add("page " + page + ": " + heap.page(page, 0) + " " + heap.page(page, 1) + " " + heap.page(page, 2)
                + " " + heap.page(page, 3));
        }
        for (int i = 0; i < 7; i++) {
            all.add("is " + i + ": " + heap.is(i));
        }
        for (int i = 0; i < 6; i++) {
            all.add("root " + i + ": " + heap.root(i) + ", about: " + heap.about(i));
        }
        int lines = heap.book(-1, 0);
        for (int i = 0; i < lines; i++) {
            all.add("line " + i + ": " + heap.book(i, 0) + " " + heap.book(i, 1) + " " + heap.book(i, 2));
        }
        all.add("fault " + heap.fault(0) + " at " + heap.fault(1));
        return all;
    }
}
