/** Promises 27, 29 to 44 and 47 to 50: what comes, what is reached, and the image to go back to. */
public final class ViewsTest {
    private static final Check CHECK = new Check("ViewsTest");

    public static void main(String[] args) {
        promise27();
        promise29();
        promise30();
        promise31();
        promise32();
        promise33();
        promise34();
        promise35();
        promise36();
        promise37();
        promise38();
        promise39();
        promise40();
        promise41();
        promise42();
        promise43();
        promise44();
        promise47();
        promise48();
        promise49();
        promise50();
        nothingChanges();
        CHECK.close();
    }

    private static void promise27() {
        ColouredHeap heap = Runs.shared();
        CHECK.due("foretold 0", -1, heap.foretold(0, 0));
        CHECK.due("foretold 61", -1, heap.foretold(61, 0));
        CHECK.due("what -1", -1, heap.foretold(1, -1));
        CHECK.due("what 2", -1, heap.foretold(1, 2));
        int[] phases = {1, 1, 1, 2, 2, 0, 1};
        int[] free = {0xfc, 0xfc, 0xfc, 0xfc, 0xf8, 0xf9, 0xf9};
        for (int n = 1; n <= 7; n++) {
            CHECK.due("phase behind " + n, phases[n - 1], heap.foretold(n, 0));
            CHECK.due("free behind " + n, free[n - 1], heap.foretold(n, 1));
        }
        CHECK.due("behind 60", true, heap.foretold(60, 0) >= 0);
        CHECK.due("the clock stays", 0, heap.is(0));
        CHECK.due("the phase stays", 0, heap.is(2));
        heap.begin(0, 4, 0);
        CHECK.due("nobody finishes", 0, heap.foretold(9, 0));
        ColouredHeap late = Runs.atClock(9997);
        CHECK.due("marking", 1, late.is(2));
        CHECK.due("those that can pass", 0, late.foretold(3, 0));
        CHECK.due("at the last", 0, late.foretold(60, 0));
        late.day(2);
        CHECK.due("none can pass", 0, late.foretold(1, 0));
        CHECK.due("all is free", 0xff, late.foretold(1, 1));
    }

    private static void promise29() {
        ColouredHeap heap = Runs.moving();
        heap.day(1);
        CHECK.due("current of the mark", 16, heap.current(1));
        CHECK.due("current of the other mark", 16, heap.current(65));
        CHECK.due("current of a mended one", 1, heap.current(129));
        CHECK.due("current without forward", 8, heap.current(8));
        CHECK.due("current 191", 63, heap.current(191));
        CHECK.due("current 192", -1, heap.current(192));
        CHECK.due("current none", -1, heap.current(-1));
        CHECK.due("current -2", -1, heap.current(-2));
    }

    private static void promise30() {
        ColouredHeap heap = Runs.shared();
        CHECK.due("a root's", true, heap.reached(8));
        CHECK.due("a field's", true, heap.reached(1));
        CHECK.due("a dead one", false, heap.reached(4));
        CHECK.due("a word within", false, heap.reached(2));
        CHECK.due("nothing", false, heap.reached(40));
        CHECK.due("reached -1", false, heap.reached(-1));
        CHECK.due("reached 64", false, heap.reached(64));
        ColouredHeap moving = Runs.moving();
        CHECK.due("in a chosen page", true, moving.reached(1));
        moving.day(1);
        CHECK.due("the old one", false, moving.reached(1));
        CHECK.due("the new one", true, moving.reached(16));
    }

    private static void promise31() {
        ColouredHeap heap = Runs.shared();
        CHECK.due("objects", 2, heap.reach(false));
        CHECK.due("words", 7, heap.reach(true));
        heap.drop(4);
        CHECK.due("no objects", 0, heap.reach(false));
        CHECK.due("no words", 0, heap.reach(true));
        CHECK.due("objects of a row", 4, Runs.row().reach(false));
        CHECK.due("words of a row", 8, Runs.row().reach(true));
    }

    private static void promise32() {
        ColouredHeap heap = Runs.moving();
        CHECK.due("dead", 4, heap.dead());
        heap.day(1);
        CHECK.due("the old one in its chosen page, too", 7, heap.dead());
        heap.day(1);
        CHECK.due("freed", 0, heap.dead());
        heap.drop(4);
        CHECK.due("all", 7, heap.dead());
    }

    private static void promise33() {
        ColouredHeap heap = Runs.shared();
        CHECK.due("while idle", 0, heap.stale());
        heap.start();
        CHECK.due("both fields", 2, heap.stale());
        heap.day(1);
        CHECK.due("mended", 0, heap.stale());
        heap.day(1);
        heap.choose();
        CHECK.due("both again", 2, heap.stale());
        heap.load(0, 4, 0);
        CHECK.due("one is mended", 1, heap.stale());
        heap.drop(4);
        CHECK.due("of what is reached alone", 0, heap.stale());
    }

    private static void promise34() {
        CHECK.due("a new heap", true, new ColouredHeap().safe());
        ColouredHeap heap = Runs.shared();
        for (int i = 0; i < 30; i++) {
            CHECK.due("behind tick " + i, true, heap.safe());
            heap.day(1);
            heap.make(i % 4, i % 3);
            heap.store(4, 2, i % 4);
        }
    }

    private static void promise35() {
        ColouredHeap heap = Runs.row();
        for (int i = 0; i < 4; i++) {
            CHECK.due("how far " + i, i, heap.far(i * 2));
        }
        heap.load(3, 0, 0);
        heap.load(3, 3, 0);
        CHECK.due("by the nearest root", 0, heap.far(4));
        CHECK.due("and on", 1, heap.far(6));
        CHECK.due("a word within", -1, heap.far(1));
        CHECK.due("far -1", -1, heap.far(-1));
        CHECK.due("far 64", -1, heap.far(64));
        heap.drop(0);
        CHECK.due("not reached", -1, heap.far(2));
        ColouredHeap two = new ColouredHeap();
        two.make(0, 2);
        two.make(1, 1);
        two.make(2, 0);
        two.store(1, 0, 2);
        two.store(0, 0, 1);
        two.store(0, 1, 2);
        two.drop(1);
        two.drop(2);
        CHECK.due("the fewest loads", 1, two.far(5));
    }

    private static void promise36() {
        ColouredHeap heap = Runs.row();
        for (int i = 0; i < 4; i++) {
            CHECK.due("retained by " + i, 8 - i * 2, heap.retained(i * 2));
        }
        heap.load(3, 0, 0);
        heap.load(3, 3, 0);
        CHECK.due("not what another root reaches", 4, heap.retained(0));
        CHECK.due("a word within", -1, heap.retained(1));
        CHECK.due("retained -1", -1, heap.retained(-1));
        CHECK.due("retained 64", -1, heap.retained(64));
        heap.drop(0);
        CHECK.due("not reached", -1, heap.retained(0));
        CHECK.due("two ways lead to it", 4, Runs.shared().retained(8) - 3);
        CHECK.due("itself alone", 3, Runs.shared().retained(1));
        ColouredHeap ring = Runs.row();
        ring.load(1, 0, 0);
        ring.store(1, 0, 0);
        ring.drop(1);
        CHECK.due("a ring", 4, ring.retained(0));
        CHECK.due("a part of a ring", 2, ring.retained(2));
    }

    /** A heap in which objects of so many words each are reached, and none else. */
    private static ColouredHeap objects(int... sizes) {
        ColouredHeap heap = new ColouredHeap();
        int holder = -1;
        int free = 0;
        for (int size : sizes) {
            heap.make(1, size - 1);
            if (size == 4 && holder < 0) {
                heap.copy(0, 1);
                holder = 0;
                free = 3;
            } else if (size == 4) {
                heap.store(1, 0, 0);
                heap.copy(0, 1);
                free = 2;
            } else {
                heap.store(0, free == 3 ? 0 : 3 - free, 1);
                free--;
            }
        }
        heap.drop(1);
        return heap;
    }

    private static void pack(int want, int... sizes) {
        ColouredHeap heap = objects(sizes);
        CHECK.due("objects", sizes.length, heap.reach(false));
        CHECK.due("pack of " + java.util.Arrays.toString(sizes), want, heap.pack());
    }

    private static void promise37() {
        CHECK.due("pack of none", 0, new ColouredHeap().pack());
        pack(1, 4);
        pack(1, 4, 4);
        pack(2, 4, 4, 1);
        pack(1, 4, 3, 1);
        pack(2, 4, 3, 2);
        pack(2, 4, 3, 3);
        pack(3, 4, 3, 3, 4, 2, 1);
        pack(3, 4, 3, 3, 4, 3, 2);
        pack(4, 4, 3, 3, 3, 4, 3, 3);
        pack(2, 4, 2, 2, 4, 2, 2);
        pack(2, 4, 3, 3, 4, 1, 1);
        ColouredHeap greedy = new ColouredHeap();
        int[] sizes = {4, 3, 3, 2, 2, 2};
        for (int root = 0; root < 6; root++) {
            greedy.make(root, sizes[root] - 1);
        }
        CHECK.due("4 2 2 and 3 3 2", 2, greedy.pack());
        packsOfAllKinds();
    }

    /** A row of objects that have a field each, the latest at root 5, and up to five without at the other roots. */
    private static ColouredHeap rowOf(int ones, int twos, int threes, int fours) {
        ColouredHeap heap = new ColouredHeap();
        int[] count = {twos, threes, fours};
        for (int fields = 3; fields >= 1; fields--) {
            for (int i = 0; i < count[fields - 1]; i++) {
                heap.make(0, fields);
                heap.store(0, 0, 5);
                heap.copy(5, 0);
            }
        }
        heap.drop(0);
        for (int root = 0; root < ones; root++) {
            heap.make(root, 0);
        }
        return heap;
    }

    private static void packsOfAllKinds() {
        for (int ones = 0; ones <= 5; ones++) {
            for (int twos = 0; twos <= 12; twos++) {
                for (int threes = 0; threes <= 9; threes++) {
                    for (int fours = 0; fours <= 12; fours++) {
                        int words = ones + 2 * twos + 3 * threes + 4 * fours;
                        if (words > 60) {
                            continue;
                        }
                        ColouredHeap heap = rowOf(ones, twos, threes, fours);
                        if (heap.reach(true) != words) {
                            continue;
                        }
                        int want = PlainModel.fewestPages(ones, twos, threes, fours);
                        CHECK.due("pack of " + ones + " " + twos + " " + threes + " " + fours, want, heap.pack());
                    }
                }
            }
        }
    }

    private static void promise38() {
        ColouredHeap heap = Runs.shared();
        CHECK.due("idle", 0, heap.till());
        heap.start();
        CHECK.due("two marks, chosen, moved, ended", 5, heap.till());
        heap.day(4);
        CHECK.due("one more", 1, heap.till());
        ColouredHeap begun = Runs.moving();
        begun.begin(0, 4, 0);
        CHECK.due("never", -1, begun.till());
        ColouredHeap late = Runs.atClock(9999);
        late.start();
        CHECK.due("beyond 9999, too", 2, late.till());
        CHECK.due("the clock stays", 9999, late.is(0));
    }

    private static void promise39() {
        ColouredHeap heap = Runs.moving();
        CHECK.due("nobody", -1, heap.alike());
        heap.begin(0, 4, 0);
        CHECK.due("one", -1, heap.alike());
        heap.begin(1, 4, 1);
        CHECK.due("both", 1, heap.alike());
        CHECK.due("nothing is done", -1, heap.forward(1));
        heap.store(4, 1, 4);
        CHECK.due("a word was stored over", 0, heap.alike());
        heap.undo();
        heap.store(4, 1, 0);
        CHECK.due("by none", 0, heap.alike());
        ColouredHeap none = Runs.moving();
        none.begin(0, 4, 2);
        none.begin(1, 4, 2);
        CHECK.due("none and none", 1, none.alike());
        none.store(4, 2, 4);
        CHECK.due("none and another", 0, none.alike());
        ColouredHeap one = Runs.moving();
        one.begin(0, 4, 0);
        one.begin(1, 4, 0);
        CHECK.due("the same word", 1, one.alike());
        one.day(1);
        CHECK.due("moved by the collector", 1, one.alike());
    }

    private static void promise40() {
        ColouredHeap heap = new ColouredHeap();
        CHECK.due("none", -1, heap.poorest());
        heap = Runs.shared();
        CHECK.due("of like ones the lowest", 0, heap.poorest());
        heap.start();
        CHECK.due("without life", 0, heap.poorest());
        heap.day(1);
        CHECK.due("3 words against 4", 0, heap.poorest());
        heap.day(1);
        heap.choose();
        CHECK.due("not a chosen one", 1, heap.poorest());
        heap.day(1);
        CHECK.due("the page moved to", 2, heap.poorest());
    }

    private static void promise41() {
        ColouredHeap heap = Runs.moving();
        CHECK.due("gaps -1", -1, heap.gaps(-1));
        CHECK.due("gaps 8", -1, heap.gaps(8));
        CHECK.due("gaps of a chosen page", 4, heap.gaps(0));
        CHECK.due("no gaps", 0, heap.gaps(1));
        CHECK.due("gaps of a free page", 0, heap.gaps(7));
        heap.day(1);
        CHECK.due("the old one is a gap", 7, heap.gaps(0));
        CHECK.due("the new one is none", 0, heap.gaps(2));
    }

    private static void promise42() {
        ColouredHeap heap = Runs.moving();
        CHECK.due("shape", 1, heap.shape(8, 0));
        heap.day(1);
        CHECK.due("by current", 16, heap.shape(8, 1));
        CHECK.due("none", -1, heap.shape(8, 2));
        CHECK.due("field 3", -1, heap.shape(8, 3));
        CHECK.due("field -1", -1, heap.shape(8, -1));
        CHECK.due("not reached", -1, heap.shape(1, 0));
        CHECK.due("a field it has not", -1, heap.shape(16, 2));
        CHECK.due("shape -1", -1, heap.shape(-1, 0));
        CHECK.due("shape 64", -1, heap.shape(64, 0));
    }

    private static void promise43() {
        ColouredHeap heap = new ColouredHeap();
        heap.make(0, 2);
        heap.make(1, 2);
        heap.make(2, 1);
        heap.make(3, 1);
        CHECK.due("two with none", true, heap.same(0, 3));
        CHECK.due("itself", true, heap.same(0, 0));
        CHECK.due("not as many fields", false, heap.same(0, 8));
        heap.store(0, 0, 2);
        CHECK.due("one leads nowhere", false, heap.same(0, 3));
        heap.store(1, 0, 3);
        CHECK.due("unlike ones", false, heap.same(0, 3));
        heap.store(1, 0, 2);
        CHECK.due("like ones", true, heap.same(0, 3));
        heap.store(1, 1, 2);
        CHECK.due("the second field", false, heap.same(0, 3));
        heap.drop(1);
        CHECK.due("not reached", false, heap.same(3, 3));
        CHECK.due("same -1", false, heap.same(-1, -1));
        CHECK.due("same 64", false, heap.same(0, 64));
        CHECK.due("nothing", false, heap.same(40, 40));
    }

    private static void promise44() {
        ColouredHeap heap = Runs.row();
        for (int i = 0; i < 4; i++) {
            CHECK.due("chain from " + i, 4 - i, heap.chain(i * 2));
        }
        CHECK.due("a word within", -1, heap.chain(1));
        CHECK.due("nothing", -1, heap.chain(40));
        CHECK.due("chain -1", -1, heap.chain(-1));
        CHECK.due("chain 64", -1, heap.chain(64));
        heap.load(1, 0, 0);
        heap.store(1, 0, 0);
        CHECK.due("a ring", 2, heap.chain(0));
        CHECK.due("a ring from the other", 2, heap.chain(2));
        heap.store(0, 0, 0);
        CHECK.due("itself", 1, heap.chain(0));
        CHECK.due("into a ring", 2, heap.chain(2));
        CHECK.due("first fields alone", 2, Runs.shared().chain(8));
        CHECK.due("no fields", 1, noFields().chain(0));
    }

    private static ColouredHeap noFields() {
        ColouredHeap heap = new ColouredHeap();
        heap.make(0, 0);
        return heap;
    }

    private static void promise47() {
        ColouredHeap heap = Runs.moving();
        heap.load(0, 4, 0);
        heap.day(1);
        int[] lines = {5, 1, 1, 1, 1, 3};
        for (int what = 0; what < 6; what++) {
            CHECK.due("ledger " + what, lines[what], heap.ledger(what));
        }
        CHECK.due("ledger -1", -2, heap.ledger(-1));
        CHECK.due("ledger 6", -2, heap.ledger(6));
        ColouredHeap many = new ColouredHeap();
        for (int i = 0; i < 30; i++) {
            many.make(0, 0);
        }
        CHECK.due("the latest 25", 25, many.ledger(0));
    }

    private static void promise48() {
        ColouredHeap heap = Runs.moving();
        CHECK.due("image", 2, heap.image());
        heap.load(0, 4, 0);
        heap.day(1);
        CHECK.due("another image", 3, heap.image());
        heap.drop(0);
        CHECK.due("back to it", 3, heap.back());
        CHECK.due("the root", 144, heap.root(0));
        CHECK.due("steps of the image", 17, heap.about(2));
    }

    private static void promise49() {
        ColouredHeap heap = Runs.moving();
        heap.by(Runs.tell(heap, "paces 1;"));
        heap.said(3, 1);
        heap.begin(0, 4, 0);
        int steps = heap.about(2);
        heap.image();
        Runs.tell(heap, "paces 2;");
        heap.by(1);
        heap.said(4, 0);
        heap.finish(0, 0);
        heap.day(1);
        heap.undo();
        Runs.tell(heap, "oh");
        heap.feed(0, 0, 0, 0, 0);
        for (int turn = 0; turn < 2; turn++) {
            CHECK.due("back", 2, heap.back());
            int[] about = {1, 0, steps, 1, 1, 20};
            for (int what = 0; what < 6; what++) {
                CHECK.due("about " + what, about[what], heap.about(what));
            }
            CHECK.due("the fault stays", 1, heap.fault(0));
            CHECK.due("not told", -1, heap.forward(1));
            CHECK.due("its law", 1, heap.paces(0));
            CHECK.due("the book", 9, heap.book(-1, 0));
            CHECK.due("undo works on", steps - 1, heap.undo());
            CHECK.due("not begun", 0, heap.about(3));
            heap.make(0, 0);
        }
        CHECK.due("a text in the place of the other", 1, Runs.tell(heap, "paces 5;"));
        heap.by(1);
        CHECK.due("its law", 5, heap.paces(0));
        backToSteps();
        backToSaid();
    }

    private static void backToSteps() {
        ColouredHeap heap = new ColouredHeap();
        for (int i = 0; i < 40; i++) {
            heap.make(0, 0);
        }
        heap.image();
        for (int i = 0; i < 35; i++) {
            heap.drop(i % 2);
            heap.make(i % 2, 0);
        }
        heap.back();
        for (int i = 29; i >= 0; i--) {
            CHECK.due("undo", i, heap.undo());
            CHECK.due("the root then", 128 + 9 + i, heap.root(0));
        }
        heap.back();
        CHECK.due("steps again", 30, heap.about(2));
        CHECK.due("the root again", 128 + 39, heap.root(0));
    }

    private static void backToSaid() {
        ColouredHeap heap = Runs.shared();
        Runs.tell(heap, "picks page;");
        heap.said(1, 1);
        heap.said(0, 0);
        heap.image();
        heap.said(-1, 0);
        heap.said(0, 1);
        heap.said(1, 0);
        CHECK.due("said otherwise", 0, heap.whose());
        heap.back();
        CHECK.due("said as it was", 1, heap.whose());
        heap.said(-1, 0);
        heap.said(1, 0);
        heap.said(0, 1);
        CHECK.due("and otherwise again", 0, heap.whose());
        heap.back();
        CHECK.due("once more as it was", 1, heap.whose());
    }

    private static void promise50() {
        ColouredHeap heap = new ColouredHeap();
        CHECK.due("about -1", -2, heap.about(-1));
        CHECK.due("about 6", -2, heap.about(6));
        heap.by(Runs.tell(heap, "picks 1;"));
        Runs.tell(heap, "picks 1;");
        heap.make(0, 2);
        heap.begin(1, 0, 1);
        heap.said(0, 0);
        heap.feed(1, 1, 1, 1, 1);
        int[] about = {2, 0, 2, 2, 1, 20};
        for (int what = 0; what < 6; what++) {
            CHECK.due("about " + what, about[what], heap.about(what));
        }
        heap.begin(0, 0, 0);
        CHECK.due("both threads", 3, heap.about(3));
        heap.finish(1, 3);
        CHECK.due("the first", 1, heap.about(3));
    }

    /** What only asks changes nothing: all is seen alike ahead of it and behind it. */
    private static void nothingChanges() {
        ColouredHeap heap = Runs.moving();
        heap.begin(0, 4, 0);
        heap.begin(1, 4, 1);
        String before = Runs.all(heap).toString();
        heap.foretold(60, 1);
        heap.till();
        heap.alike();
        heap.retained(8);
        heap.pack();
        heap.whose();
        heap.page(0, 3);
        heap.paces(3);
        heap.chain(8);
        CHECK.due("all", before, Runs.all(heap).toString());
    }
}
