/** Promises 1, 7 to 16 and 18 to 26: what is done by hand and by draws, and how all is then. */
public final class HeapTest {
    private static final Check CHECK = new Check("HeapTest");

    public static void main(String[] args) {
        promise01();
        promise07();
        paceOfMaking();
        promise08();
        loadsWhileMoving();
        promise09();
        promise10();
        promise11();
        promise12();
        promise13();
        copiesThatCameLate();
        readsOverPhases();
        promise14();
        promise15();
        pagesChosenInOrder();
        promise16();
        ticksThatDoNothing();
        promise18();
        drawsOneByOne();
        promise19();
        promise20();
        promise21();
        promise22();
        forwardOutlivesPages();
        promise23();
        promise24();
        promise25();
        promise26();
        CHECK.close();
    }

    private static void promise01() {
        ColouredHeap heap = new ColouredHeap();
        for (int page = 0; page < 8; page++) {
            CHECK.due("page " + page + " is free", 0, heap.page(page, 0));
            CHECK.due("page " + page + " is unused", 0, heap.page(page, 1));
            CHECK.due("page " + page + " has no life", 0, heap.page(page, 2));
        }
        for (int address = 0; address < 64; address++) {
            CHECK.due("word " + address, -2, heap.at(address));
            CHECK.due("forward of " + address, -1, heap.forward(address));
            CHECK.due("mark of " + address, false, heap.marked(address));
        }
        for (int root = 0; root < 6; root++) {
            CHECK.due("root " + root, -1, heap.root(root));
        }
        int[] about = {0, -1, 0, 0, 0, 0};
        int[] is = {0, 463, 0, 2, 0, -1, -1};
        for (int what = 0; what < 6; what++) {
            CHECK.due("about " + what, about[what], heap.about(what));
        }
        for (int what = 0; what < 7; what++) {
            CHECK.due("is " + what, is[what], heap.is(what));
        }
        CHECK.due("book", 0, heap.book(-1, 0));
        heap.make(0, 3);
        heap.day(5);
        CHECK.due("back to the new object", 0, heap.back());
        CHECK.due("page 0", 0, heap.page(0, 0));
        CHECK.due("no steps", 0, heap.about(2));
    }

    private static void promise07() {
        ColouredHeap heap = new ColouredHeap();
        CHECK.due("make root -1", -1, heap.make(-1, 0));
        CHECK.due("make root 6", -1, heap.make(6, 0));
        CHECK.due("make -1 fields", -1, heap.make(0, -1));
        CHECK.due("make 4 fields", -1, heap.make(0, 4));
        CHECK.due("no steps", 0, heap.about(2));
        CHECK.due("make 3 fields", 0, heap.make(0, 3));
        CHECK.due("make 2 fields", 4, heap.make(0, 2));
        CHECK.due("root", 132, heap.root(0));
        CHECK.due("one more word than there is room", 8, heap.make(0, 1));
        CHECK.due("the page for making", 1, heap.is(5));
        CHECK.due("room is not gone back to", 10, heap.make(0, 0));
        for (int i = 0; i < 7; i++) {
            heap.make(1, 3);
        }
        CHECK.due("clock", 0, heap.is(0));
        ColouredHeap full = new ColouredHeap();
        for (int i = 0; i < 15; i++) {
            CHECK.due("make " + i, i * 4, full.make(i % 6, 3));
        }
        CHECK.due("make 2 more", 60, full.make(0, 1));
        CHECK.due("no room", -1, full.make(1, 2));
        CHECK.due("the root stays", 128 + 52, full.root(1));
        CHECK.due("steps stay", 16, full.about(2));
        CHECK.due("room for one of 2 words", 62, full.make(1, 1));
        CHECK.due("no room at all", -1, full.make(1, 0));
        ColouredHeap marking = Runs.shared();
        marking.start();
        CHECK.due("made while marking", 12, marking.make(0, 1));
        CHECK.due("of the good colour", 12, marking.root(0));
        CHECK.due("marked", true, marking.marked(12));
        CHECK.due("not on the stack", 1, marking.is(4));
        ColouredHeap moving = Runs.moving();
        CHECK.due("made while moving", 12, moving.make(0, 1));
        CHECK.due("mended colour", 140, moving.root(0));
        CHECK.due("marked then, too", true, moving.marked(12));
        ColouredHeap idle = new ColouredHeap();
        idle.make(0, 1);
        CHECK.due("not marked while idle", false, idle.marked(0));
    }

    private static void paceOfMaking() {
        ColouredHeap heap = Runs.ruled("paces free - 6;");
        CHECK.due("make", 0, heap.make(0, 3));
        CHECK.due("as all was ahead of it", 2, heap.is(0));
        CHECK.due("one step", 1, heap.about(2));
        CHECK.due("two ticks: begun and marked", 1, heap.is(2));
        CHECK.due("the line of making is the first", 0, heap.book(0, 1));
        CHECK.due("then of marking", 1, heap.book(1, 1));
        CHECK.due("at clock 0", 0, heap.book(1, 0));
        heap.undo();
        CHECK.due("taken back with its ticks", 0, heap.is(0));
        ColouredHeap most = Runs.ruled("paces 99;");
        most.make(0, 0);
        CHECK.due("9 at most", 9, most.is(0));
    }

    private static void promise08() {
        ColouredHeap heap = Runs.row();
        CHECK.due("load", 130, heap.load(1, 0, 0));
        CHECK.due("the root", 130, heap.root(1));
        CHECK.due("into itself", 132, heap.load(1, 1, 0));
        CHECK.due("the root then", 132, heap.root(1));
        heap.load(1, 1, 0);
        CHECK.due("load of none", -1, heap.load(2, 1, 0));
        CHECK.due("none", -1, heap.root(2));
        int steps = heap.about(2);
        CHECK.due("from none", -2, heap.load(0, 3, 0));
        CHECK.due("a field it has not", -2, heap.load(2, 0, 1));
        CHECK.due("field -1", -2, heap.load(2, 0, -1));
        CHECK.due("field 3", -2, heap.load(2, 0, 3));
        CHECK.due("root -1", -2, heap.load(-1, 0, 0));
        CHECK.due("root 6", -2, heap.load(6, 0, 0));
        CHECK.due("from root -1", -2, heap.load(2, -1, 0));
        CHECK.due("from root 6", -2, heap.load(2, 6, 0));
        CHECK.due("steps stay", steps, heap.about(2));
        ColouredHeap marking = Runs.row();
        marking.start();
        CHECK.due("load while marking", 2, marking.load(3, 0, 0));
        CHECK.due("the word is mended", 2, marking.at(1));
        CHECK.due("marked", true, marking.marked(2));
        CHECK.due("on the stack", 2, marking.is(4));
        CHECK.due("written down", 5, marking.book(marking.book(-1, 0) - 1, 1));
        CHECK.due("its word", 1, marking.book(marking.book(-1, 0) - 1, 2));
        int lines = marking.book(-1, 0);
        marking.load(3, 0, 0);
        CHECK.due("a good one is not mended", lines, marking.book(-1, 0));
        CHECK.due("nor stacked again", 2, marking.is(4));
    }

    private static void loadsWhileMoving() {
        ColouredHeap heap = Runs.moving();
        CHECK.due("load moves first", 144, heap.load(0, 4, 0));
        CHECK.due("forward", 16, heap.forward(1));
        CHECK.due("copied", 1002, heap.at(16));
        CHECK.due("the copy is marked", true, heap.marked(16));
        CHECK.due("the old one stays marked", true, heap.marked(1));
        CHECK.due("the word is mended", 144, heap.at(9));
        CHECK.due("the other one not yet", 1, heap.at(10));
        int lines = heap.book(-1, 0);
        CHECK.due("moved", 4, heap.book(lines - 2, 1));
        CHECK.due("the old address", 1, heap.book(lines - 2, 2));
        CHECK.due("then mended", 5, heap.book(lines - 1, 1));
        CHECK.due("load of what has been moved", 144, heap.load(1, 4, 1));
        CHECK.due("no second copy", 3, heap.page(2, 1));
        ColouredHeap full = Runs.full();
        CHECK.due("no page is free", 0, full.foretold(1, 1));
        int steps = full.about(2);
        CHECK.due("no room to move", -2, full.load(0, 4, 0));
        CHECK.due("steps stay", steps, full.about(2));
        CHECK.due("the root stays", -1, full.root(0));
        ColouredHeap idle = Runs.moving();
        idle.day(2);
        CHECK.due("idle", 0, idle.is(2));
        CHECK.due("stale yet", 1, idle.at(9));
        CHECK.due("load while idle", 144, idle.load(0, 4, 0));
        CHECK.due("mended", 144, idle.at(9));
    }

    private static void promise09() {
        ColouredHeap heap = new ColouredHeap();
        heap.make(0, 2);
        heap.make(1, 0);
        CHECK.due("store", true, heap.store(0, 1, 1));
        CHECK.due("the word", 131, heap.at(2));
        CHECK.due("store none", true, heap.store(0, 1, 5));
        CHECK.due("none", -1, heap.at(2));
        CHECK.due("store itself", true, heap.store(0, 0, 0));
        CHECK.due("itself", 128, heap.at(1));
        int steps = heap.about(2);
        CHECK.due("field 2 of two", false, heap.store(0, 2, 1));
        CHECK.due("field -1", false, heap.store(0, -1, 1));
        CHECK.due("field 0 of none", false, heap.store(1, 0, 0));
        CHECK.due("into no object", false, heap.store(2, 0, 0));
        CHECK.due("root -1", false, heap.store(-1, 0, 0));
        CHECK.due("root 6", false, heap.store(6, 0, 0));
        CHECK.due("value -1", false, heap.store(0, 0, -1));
        CHECK.due("value 6", false, heap.store(0, 0, 6));
        CHECK.due("steps stay", steps, heap.about(2));
        CHECK.due("stores are not written down", 2, heap.book(-1, 0));
    }

    private static void promise10() {
        ColouredHeap heap = new ColouredHeap();
        heap.make(5, 0);
        CHECK.due("drop none", false, heap.drop(0));
        CHECK.due("drop -1", false, heap.drop(-1));
        CHECK.due("drop 6", false, heap.drop(6));
        CHECK.due("steps", 1, heap.about(2));
        CHECK.due("drop", true, heap.drop(5));
        CHECK.due("none", -1, heap.root(5));
        CHECK.due("the object stays", 1000, heap.at(0));
        CHECK.due("a step", 2, heap.about(2));
    }

    private static void promise11() {
        ColouredHeap heap = new ColouredHeap();
        heap.make(0, 0);
        CHECK.due("copy", true, heap.copy(5, 0));
        CHECK.due("copied", 128, heap.root(5));
        CHECK.due("copy none", true, heap.copy(5, 1));
        CHECK.due("none", -1, heap.root(5));
        CHECK.due("steps", 3, heap.about(2));
        CHECK.due("like roots", false, heap.copy(0, 0));
        CHECK.due("into -1", false, heap.copy(-1, 0));
        CHECK.due("into 6", false, heap.copy(6, 0));
        CHECK.due("from -1", false, heap.copy(0, -1));
        CHECK.due("from 6", false, heap.copy(0, 6));
        CHECK.due("steps stay", 3, heap.about(2));
    }

    private static void promise12() {
        ColouredHeap heap = Runs.moving();
        CHECK.due("begin thread -1", -1, heap.begin(-1, 4, 0));
        CHECK.due("begin thread 2", -1, heap.begin(2, 4, 0));
        CHECK.due("begin from none", -1, heap.begin(0, 0, 0));
        CHECK.due("begin from 6", -1, heap.begin(0, 6, 0));
        CHECK.due("begin from -1", -1, heap.begin(0, -1, 0));
        CHECK.due("begin field 3", -1, heap.begin(0, 4, 3));
        CHECK.due("begin field -1", -1, heap.begin(0, 4, -1));
        int steps = heap.about(2);
        CHECK.due("begin with a copy", 1, heap.begin(0, 4, 0));
        CHECK.due("a step", steps + 1, heap.about(2));
        CHECK.due("its copy", 1002, heap.at(16));
        CHECK.due("is not marked", false, heap.marked(16));
        CHECK.due("nor told", -1, heap.forward(1));
        CHECK.due("nor is the word mended", 1, heap.at(9));
        CHECK.due("once more", -1, heap.begin(0, 4, 1));
        CHECK.due("of none, without a copy", 0, heap.begin(1, 4, 2));
        CHECK.due("both", 3, heap.about(3));
        ColouredHeap good = Runs.moving();
        good.load(0, 4, 0);
        CHECK.due("of a good pointer", 0, good.begin(0, 4, 0));
        CHECK.due("of one that has been moved", 0, good.begin(1, 4, 1));
        ColouredHeap full = Runs.full();
        CHECK.due("no room for a copy", -1, full.begin(0, 4, 0));
        CHECK.due("none begun", 0, full.about(3));
        CHECK.due("room for none", 0, full.begin(0, 4, 2));
    }

    private static void promise13() {
        ColouredHeap heap = Runs.moving();
        CHECK.due("finish none", -2, heap.finish(0, 0));
        heap.begin(0, 4, 0);
        int steps = heap.about(2);
        CHECK.due("thread -1", -2, heap.finish(-1, 0));
        CHECK.due("thread 2", -2, heap.finish(2, 0));
        CHECK.due("the other thread", -2, heap.finish(1, 0));
        CHECK.due("into -1", -2, heap.finish(0, -1));
        CHECK.due("into 6", -2, heap.finish(0, 6));
        CHECK.due("steps stay", steps, heap.about(2));
        CHECK.due("finish", 144, heap.finish(0, 2));
        CHECK.due("a step", steps + 1, heap.about(2));
        CHECK.due("the root", 144, heap.root(2));
        CHECK.due("the word", 144, heap.at(9));
        CHECK.due("its copy is told", 16, heap.forward(1));
        CHECK.due("and marked", true, heap.marked(16));
        CHECK.due("moved and mended", 4, heap.book(heap.book(-1, 0) - 2, 1));
        CHECK.due("finished", 0, heap.about(3));
        heap.begin(0, 4, 2);
        CHECK.due("finish of none", -1, heap.finish(0, 2));
        CHECK.due("the root is none", -1, heap.root(2));
        heap.begin(1, 4, 1);
        heap.store(4, 1, 4);
        int lines = heap.book(-1, 0);
        CHECK.due("what was read, though it was stored over", 144, heap.finish(1, 0));
        CHECK.due("the word stays", 136, heap.at(10));
        CHECK.due("nothing is written down", lines, heap.book(-1, 0));
    }

    private static void copiesThatCameLate() {
        ColouredHeap heap = Runs.moving();
        heap.begin(0, 4, 0);
        CHECK.due("the collector moves it", 2, heap.day(1));
        CHECK.due("behind the copy", 19, heap.forward(1));
        CHECK.due("a move that would end isn't", 2, heap.day(1));
        CHECK.due("finish", 147, heap.finish(0, 0));
        CHECK.due("the copy stays, as another is behind it", 6, heap.page(2, 1));
        CHECK.due("its words, too", 1002, heap.at(16));
        CHECK.due("not marked", false, heap.marked(16));
        CHECK.due("the end", 0, heap.day(1));
        ColouredHeap last = Runs.moving();
        last.load(0, 4, 0);
        last.undo();
        last.begin(0, 4, 0);
        last.begin(1, 4, 1);
        last.finish(0, 0);
        CHECK.due("the other one", 144, last.finish(1, 1));
        CHECK.due("its copy was the last", 3, last.page(2, 1));
        CHECK.due("its words are nothing", -2, last.at(19) + last.at(20) - last.at(21));
        CHECK.due("the next one is moved there", 2, last.is(6));
        ColouredHeap loaded = Runs.moving();
        loaded.begin(0, 4, 0);
        loaded.load(1, 4, 0);
        CHECK.due("a load was ahead", 19, loaded.forward(1));
        CHECK.due("the word is another one", 147, loaded.finish(0, 0));
    }

    private static void readsOverPhases() {
        ColouredHeap heap = Runs.row();
        heap.begin(0, 0, 0);
        CHECK.due("no marking while someone has begun", false, heap.start());
        CHECK.due("nor by a tick", 0, heap.day(1));
        heap.finish(0, 1);
        heap.start();
        heap.begin(0, 0, 0);
        CHECK.due("a mark can be", 1, heap.day(1));
        CHECK.due("finish", 2, heap.finish(0, 1));
        heap.day(3);
        heap.begin(1, 0, 0);
        CHECK.due("the stack is empty", 0, heap.is(4));
        CHECK.due("not chosen while someone has begun", -1, heap.choose());
        CHECK.due("nor by a tick", 1, heap.day(2));
        heap.finish(1, 1);
        CHECK.due("then it is", 2, heap.day(1));
        ColouredHeap marks = Runs.row();
        marks.start();
        marks.begin(0, 0, 0);
        marks.store(0, 0, 5);
        marks.day(2);
        CHECK.due("finish marks what was read", 2, marks.finish(0, 5));
        CHECK.due("on the stack", 1, marks.is(4));
        CHECK.due("marked", true, marks.marked(2));
    }

    private static void promise14() {
        ColouredHeap heap = Runs.row();
        int steps = heap.about(2);
        CHECK.due("start", true, heap.start());
        CHECK.due("a step", steps + 1, heap.about(2));
        CHECK.due("phase", 1, heap.is(2));
        CHECK.due("good colour", 0, heap.is(3));
        CHECK.due("the root", 0, heap.root(0));
        CHECK.due("clock", 0, heap.is(0));
        CHECK.due("start while marking", false, heap.start());
        heap.day(4);
        heap.choose();
        CHECK.due("start while moving", false, heap.start());
        heap.day(1);
        CHECK.due("idle", 0, heap.is(2));
        CHECK.due("marks stay", true, heap.marked(2));
        CHECK.due("the second time", true, heap.start());
        CHECK.due("the other colour", 1, heap.is(3));
        CHECK.due("nothing else is marked", false, heap.marked(2));
        CHECK.due("the third time", 0, third(heap));
    }

    private static int third(ColouredHeap heap) {
        heap.day(heap.till());
        heap.start();
        return heap.is(3);
    }

    private static void promise15() {
        ColouredHeap heap = Runs.shared();
        CHECK.due("choose while idle", -1, heap.choose());
        heap.start();
        CHECK.due("choose with a stack", -1, heap.choose());
        heap.day(2);
        int steps = heap.about(2);
        CHECK.due("choose", 1, heap.choose());
        CHECK.due("a step", steps + 1, heap.about(2));
        CHECK.due("chosen", 2, heap.page(0, 0));
        CHECK.due("the page for making is not", 1, heap.page(1, 0));
        CHECK.due("good colour", 2, heap.is(3));
        CHECK.due("choose while moving", -1, heap.choose());
        CHECK.due("clock", 2, heap.is(0));
        ColouredHeap dead = Runs.shared();
        dead.drop(4);
        dead.start();
        CHECK.due("nothing lives", 0, dead.choose());
        CHECK.due("page 0 is free", 0, dead.page(0, 0));
        CHECK.due("nothing in it", -2, dead.at(1));
        CHECK.due("page 1 is in use", 1, dead.page(1, 0));
        CHECK.due("freed is written down ahead of chosen", 3, dead.book(6, 1));
        CHECK.due("the page", 0, dead.book(6, 2));
        CHECK.due("chosen", 2, dead.book(7, 1));
        ColouredHeap root = Runs.shared();
        root.load(0, 4, 0);
        root.start();
        root.day(2);
        CHECK.due("choose with a root there", 1, root.choose());
        CHECK.due("the root's object is moved", 144, root.root(0));
        CHECK.due("the page moved to", 2, root.is(6));
        CHECK.due("moved behind chosen", 4, root.book(root.book(-1, 0) - 1, 1));
    }

    /** Pages 0 to 3 with lives 2, 1, 2 and 4 of 8 words; page 4 is for making. */
    private static ColouredHeap fourPages() {
        ColouredHeap heap = new ColouredHeap();
        int[] lives = {2, 1, 2, 4};
        for (int page = 0; page < 4; page++) {
            heap.make(page, lives[page] - 1);
            heap.make(5, 3);
            for (int i = 4 - lives[page]; i > 0; i--) {
                heap.make(5, 0);
            }
        }
        heap.make(5, 0);
        return heap;
    }

    private static int chosen(String law) {
        ColouredHeap heap = fourPages();
        heap.by(Runs.tell(heap, law));
        return chosenOf(heap);
    }

    private static int chosenOf(ColouredHeap heap) {
        heap.start();
        for (int i = 0; i < 20 && heap.is(4) > 0; i++) {
            heap.day(1);
        }
        heap.choose();
        int bits = 0;
        for (int page = 0; page < 8; page++) {
            bits |= heap.page(page, 0) == 2 ? 1 << page : 0;
        }
        return bits;
    }

    private static void pagesChosenInOrder() {
        CHECK.due("half of used or less", 15, chosen("paces 0;"));
        CHECK.due("less than half", 7, chosen("picks if lives*2<words then 1 else 0 end;"));
        CHECK.due("by the page's number", 10, chosen("picks page-page/2*2;"));
        CHECK.due("above 0", 8, chosen("picks lives-3;"));
        ColouredHeap one = fourPages();
        one.make(4, 3);
        for (int i = 0; i < 4; i++) {
            one.make(5, 3);
            one.store(5, 0, 4);
            one.copy(4, 5);
        }
        CHECK.due("one page is free", 0x80, one.foretold(1, 1));
        CHECK.due("5 words for the free one: 1, 2 and 2, not 4", 7, chosenOf(one));
        ColouredHeap two = fourPages();
        two.make(4, 3);
        two.make(4, 3);
        two.make(4, 3);
        CHECK.due("two pages are free", 0xc0, two.foretold(1, 1));
        CHECK.due("10 words for both", 31, chosenOf(two));
    }

    private static void promise16() {
        ColouredHeap heap = Runs.row();
        CHECK.due("day 0", -1, heap.day(0));
        CHECK.due("day 61", -1, heap.day(61));
        CHECK.due("day -1", -1, heap.day(-1));
        int steps = heap.about(2);
        CHECK.due("day 1", 1, heap.day(1));
        CHECK.due("day 4", 1, heap.day(4));
        CHECK.due("five steps", steps + 5, heap.about(2));
        CHECK.due("clock", 5, heap.is(0));
        CHECK.due("chosen by a tick", 2, heap.day(1));
        CHECK.due("the end by a tick", 0, heap.day(1));
        CHECK.due("day 60", 60, heap.day(60) < 0 ? -1 : heap.is(0) - 7);
        ColouredHeap late = new ColouredHeap();
        for (int i = 0; i < 166; i++) {
            late.day(60);
        }
        CHECK.due("clock", 9960, late.is(0));
        CHECK.due("beyond 9999", -1, late.day(40));
        CHECK.due("nothing is done", 9960, late.is(0));
        CHECK.due("to 9999", true, late.day(39) >= 0);
        CHECK.due("the last", 9999, late.is(0));
        CHECK.due("none can pass", -1, late.day(1));
        late.by(Runs.tell(late, "paces 9;"));
        CHECK.due("make", 0, late.make(0, 0));
        CHECK.due("no tick can pass", 9999, late.is(0));
        CHECK.due("nor in draws", 9999, late.years(1, 40));
    }

    private static void ticksThatDoNothing() {
        ColouredHeap full = Runs.full();
        int clock = full.is(0);
        CHECK.due("no room to move", 2, full.day(3));
        CHECK.due("the clock goes on", clock + 3, full.is(0));
        CHECK.due("not moved", -1, full.forward(1));
        CHECK.due("never idle", -1, full.till());
    }

    private static void promise18() {
        ColouredHeap heap = new ColouredHeap();
        CHECK.due("seed -1", -1, heap.years(-1, 1));
        CHECK.due("seed 10000", -1, heap.years(10000, 1));
        CHECK.due("0 draws", -1, heap.years(0, 0));
        CHECK.due("41 draws", -1, heap.years(0, 41));
        CHECK.due("no step", 0, heap.about(2));
        CHECK.due("x stays", 463, heap.is(1));
        CHECK.due("years", true, heap.years(9999, 40) > 0);
        CHECK.due("one step", 1, heap.about(2));
        int x = 9999 * 2 + 463;
        for (int i = 0; i < 40; i++) {
            x = (x * 733 + 599) % 31063;
        }
        CHECK.due("x", x, heap.is(1));
        heap.undo();
        CHECK.due("x is taken back", 463, heap.is(1));
        CHECK.due("clock, too", 0, heap.is(0));
    }

    /** The first seed whose first draw is of the one kind and does nothing, and whose second is of the other. */
    private static int seedOf(int first, int second) {
        for (int seed = 0; seed < 10000; seed++) {
            int x = seed * 2 + 463;
            boolean idle = first != 3 || x % 4 == 3;
            if (x % 6 == first && idle && next(seed) % 6 == second) {
                return seed;
            }
        }
        return -1;
    }

    private static int next(int seed) {
        return ((seed * 2 + 463) * 733 + 599) % 31063;
    }

    private static ColouredHeap sixObjects() {
        ColouredHeap heap = Runs.ruled("paces 9; make 0 of 3;");
        heap.by(-1);
        for (int root = 0; root < 6; root++) {
            heap.make(root, 3);
        }
        heap.by(0);
        return heap;
    }

    private static void drawsOneByOne() {
        ColouredHeap made = new ColouredHeap();
        made.by(Runs.tell(made, "paces 9;"));
        int x = next(seedOf(3, 0));
        made.years(seedOf(3, 0), 2);
        CHECK.due("made without paces", 0, made.is(0));
        CHECK.due("made", 1000 + x / 6 % 4, made.at(0));
        CHECK.due("at its root", 128, made.root(x % 5));
        ColouredHeap stored = sixObjects();
        x = next(seedOf(3, 2));
        stored.years(seedOf(3, 2), 2);
        CHECK.due("stored", stored.root(x / 6 % 6), stored.at(stored.root(x % 4) % 64 + 1 + x % 3));
        ColouredHeap ticked = sixObjects();
        CHECK.due("a tick of kind 4", 1, ticked.years(seedOf(3, 4), 2));
        CHECK.due("marking", 1, ticked.is(2));
        for (int seed = 0; seed < 12; seed++) {
            ColouredHeap heap = sixObjects();
            x = seed * 2 + 463;
            int from = heap.root(x % 4);
            heap.store(x % 4, x / 6 % 3, 0);
            heap.years(seed, 1);
            CHECK.due("a tick of kind 5, seed " + seed, x % 6 == 5 ? 1 : 0, heap.is(0));
            boolean drops = x % 6 == 3 && x % 4 == 1;
            CHECK.due("dropped, seed " + seed, drops, heap.root(x / 6 % 6) == -1);
            if (x % 6 == 1) {
                CHECK.due("loaded, seed " + seed, 128, heap.root(4 + x % 2));
                CHECK.due("from, seed " + seed, 128, heap.at(from % 64 + 1 + x / 6 % 3));
            }
        }
    }

    private static void promise19() {
        ColouredHeap heap = new ColouredHeap();
        CHECK.due("undo of none", -1, heap.undo());
        heap.make(0, 1);
        heap.make(1, 0);
        heap.store(0, 0, 1);
        CHECK.due("undo store", 2, heap.undo());
        CHECK.due("the word", -1, heap.at(1));
        CHECK.due("undo make", 1, heap.undo());
        CHECK.due("nothing", -2, heap.at(2));
        CHECK.due("the book, too", 1, heap.book(-1, 0));
        CHECK.due("undo make again", 0, heap.undo());
        CHECK.due("the page", 0, heap.page(0, 0));
        CHECK.due("undo of none again", -1, heap.undo());
        for (int i = 0; i < 33; i++) {
            heap.make(0, 0);
        }
        CHECK.due("30 at most", 30, heap.about(2));
        for (int i = 29; i >= 0; i--) {
            CHECK.due("undo " + i, i, heap.undo());
        }
        CHECK.due("no more", -1, heap.undo());
        CHECK.due("the first three stay", 3, heap.page(0, 1));
        ColouredHeap told = new ColouredHeap();
        told.make(0, 0);
        told.by(Runs.tell(told, "picks 1;"));
        told.said(1, 1);
        told.undo();
        CHECK.due("what was told stays", 1, told.about(0));
        CHECK.due("THE TEXT, too", 0, told.about(1));
        CHECK.due("and SAID", 1, told.about(4));
        ColouredHeap race = Runs.moving();
        race.begin(0, 4, 0);
        race.undo();
        CHECK.due("not begun", 0, race.about(3));
        CHECK.due("its copy is gone", 0, race.page(2, 0));
        race.begin(0, 4, 0);
        race.finish(0, 0);
        race.undo();
        CHECK.due("begun again", 1, race.about(3));
        CHECK.due("not told", -1, race.forward(1));
    }

    private static void promise20() {
        ColouredHeap heap = Runs.row();
        CHECK.due("root 0", 128, heap.root(0));
        CHECK.due("root 5", -1, heap.root(5));
        CHECK.due("root -1", -2, heap.root(-1));
        CHECK.due("root 6", -2, heap.root(6));
    }

    private static void promise21() {
        ColouredHeap heap = Runs.row();
        CHECK.due("a head", 1001, heap.at(0));
        CHECK.due("a pointer", 130, heap.at(1));
        CHECK.due("none", -1, heap.at(7));
        CHECK.due("nothing", -2, heap.at(8));
        CHECK.due("nothing at 63", -2, heap.at(63));
        CHECK.due("at -1", -3, heap.at(-1));
        CHECK.due("at 64", -3, heap.at(64));
    }

    private static void promise22() {
        ColouredHeap heap = Runs.moving();
        CHECK.due("none yet", -1, heap.forward(1));
        heap.day(1);
        CHECK.due("moved", 16, heap.forward(1));
        CHECK.due("of another", -1, heap.forward(0));
        CHECK.due("forward -1", -1, heap.forward(-1));
        CHECK.due("forward 64", -1, heap.forward(64));
    }

    private static void forwardOutlivesPages() {
        ColouredHeap heap = Runs.moving();
        heap.day(2);
        CHECK.due("the page is free", 0, heap.page(0, 0));
        CHECK.due("forward stays", 16, heap.forward(1));
        CHECK.due("a stale pointer leads there", 16, heap.current(1));
        heap.make(0, 3);
        heap.make(0, 3);
        CHECK.due("the page is used again", 1, heap.page(0, 0));
        CHECK.due("a mended one leads to it", 1, heap.current(129));
        heap.start();
        CHECK.due("an old mark leads on while marking", 16, heap.current(1));
        CHECK.due("a good one does not", 1, heap.current(65));
        heap.day(4);
        CHECK.due("chosen", 2, heap.is(2));
        CHECK.due("no forward any more", -1, heap.forward(1));
    }

    private static void promise23() {
        ColouredHeap heap = Runs.moving();
        CHECK.due("page -1", -1, heap.page(-1, 0));
        CHECK.due("page 8", -1, heap.page(8, 0));
        CHECK.due("what -1", -1, heap.page(0, -1));
        CHECK.due("what 4", -1, heap.page(0, 4));
        int[][] all = {{2, 7, 3, 1}, {1, 4, 4, 0}, {0, 0, 0, 1}};
        for (int page = 0; page < 3; page++) {
            for (int what = 0; what < 4; what++) {
                CHECK.due("page " + page + ", " + what, all[page][what], heap.page(page, what));
            }
        }
        heap.day(1);
        CHECK.due("what was moved lives in both", 3, heap.page(0, 2) + heap.page(2, 2) - 3);
    }

    private static void promise24() {
        ColouredHeap heap = Runs.moving();
        CHECK.due("is -1", -2, heap.is(-1));
        CHECK.due("is 7", -2, heap.is(7));
        heap.day(1);
        int[] all = {3, 463, 2, 2, 0, 1, 2};
        for (int what = 0; what < 7; what++) {
            CHECK.due("is " + what, all[what], heap.is(what));
        }
        heap.day(1);
        CHECK.due("the page moved to stays", 2, heap.is(6));
        heap.start();
        CHECK.due("the stack", 1, heap.is(4));
        heap.day(3);
        CHECK.due("it is none when chosen", -1, heap.is(6));
    }

    private static void promise25() {
        ColouredHeap heap = Runs.moving();
        CHECK.due("marked", true, heap.marked(1));
        CHECK.due("a word within", false, heap.marked(2));
        CHECK.due("a dead one", false, heap.marked(4));
        CHECK.due("nothing", false, heap.marked(40));
        CHECK.due("marked -1", false, heap.marked(-1));
        CHECK.due("marked 64", false, heap.marked(64));
        heap.day(2);
        CHECK.due("freed", false, heap.marked(1));
        CHECK.due("the copy", true, heap.marked(16));
    }

    private static void promise26() {
        ColouredHeap heap = Runs.moving();
        heap.load(0, 4, 0);
        heap.day(1);
        int[][] lines = {
            {0, 0, 0}, {0, 0, 1}, {0, 0, 4}, {0, 0, 6}, {0, 0, 8}, {0, 1, 0}, {0, 5, 9}, {0, 5, 10}, {2, 2, 1},
            {2, 4, 1}, {2, 5, 9}, {2, 3, 0}
        };
        CHECK.due("lines", lines.length, heap.book(-1, 0));
        for (int i = 0; i < lines.length; i++) {
            for (int what = 0; what < 3; what++) {
                CHECK.due("line " + i + ", " + what, lines[i][what], heap.book(i, what));
            }
        }
        CHECK.due("line 12", -2, heap.book(12, 0));
        CHECK.due("line -2", -2, heap.book(-2, 0));
        CHECK.due("what -1", -2, heap.book(0, -1));
        CHECK.due("what 3", -2, heap.book(0, 3));
        ColouredHeap many = new ColouredHeap();
        for (int i = 0; i < 30; i++) {
            many.make(0, 0);
        }
        CHECK.due("25 at most", 25, many.book(-1, 0));
        CHECK.due("the eldest", 5, many.book(0, 2));
        CHECK.due("the latest", 29, many.book(24, 2));
        CHECK.due("none behind", -2, many.book(25, 2));
    }
}
