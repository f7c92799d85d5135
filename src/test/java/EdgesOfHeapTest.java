import java.util.function.Consumer;
import java.util.function.Supplier;

/** Boundary cases of the document's part I: pages, pointers, what is done to them, the collector, steps. */
public final class EdgesOfHeapTest {
    private static Edges edges;

    public static void main(String[] args) throws Exception {
        edges = new Edges("EdgesOfHeapTest");
        pagesAndPointers();
        givingOut();
        barrier();
        making();
        roots();
        threads();
        marking();
        choosing();
        moving();
        ticks();
        lines();
        steps();
        edges.close();
    }

    // ---- beginnings

    /**
     * On each of pages 0 to 2 an object of that many fields, with others behind it that are dead: at 0, 8 and 16. Root
     * 3 has one at 24 on page 3, whose fields lead to them; all is marked and pages 0 to 2 are chosen.
     */
    private static ColouredHeap threeToMove(int fields) {
        ColouredHeap heap = new ColouredHeap();
        for (int root = 0; root < 3; root++) {
            heap.make(root, fields);
            heap.make(5, 3);
        }
        heap.make(3, 3);
        for (int root = 0; root < 3; root++) {
            heap.store(3, root, root);
            heap.drop(root);
        }
        heap.drop(5);
        heap.start();
        heap.day(4);
        heap.choose();
        return heap;
    }

    /**
     * Pages that hold objects of so many words: live ones at roots 0 to 2, dead ones where the number is below 0.
     * Behind them as many pages as told are full of objects that hang on root 5.
     */
    private static ColouredHeap pages(String law, int full, int[]... contents) {
        ColouredHeap heap = Runs.ruled(law);
        int root = 0;
        for (int[] content : contents) {
            for (int words : content) {
                heap.make(words > 0 ? root : 4, Math.abs(words) - 1);
                root += words > 0 ? 1 : 0;
            }
        }
        for (int i = 0; i < full * 2; i++) {
            heap.make(4, 3);
            heap.store(4, 0, 5);
            heap.copy(5, 4);
        }
        heap.drop(4);
        heap.start();
        for (int i = 0; i < 60 && heap.is(4) > 0; i++) {
            heap.day(1);
        }
        return heap;
    }

    private static int[] page(int... words) {
        return words;
    }

    /** Marking, the stack empty. */
    private static ColouredHeap marked() {
        ColouredHeap heap = Runs.shared();
        heap.start();
        heap.day(2);
        return heap;
    }

    private static ColouredHeap started() {
        ColouredHeap heap = Runs.shared();
        heap.start();
        return heap;
    }

    /** A cycle is over: the object of page 0 is at 16 now, page 0 is free, words 9 and 10 are stale. */
    private static ColouredHeap cycled() {
        ColouredHeap heap = Runs.moving();
        heap.day(2);
        return heap;
    }

    /** Both threads have a copy of the object at 1: at 16 and at 19. */
    private static ColouredHeap begunBoth() {
        ColouredHeap heap = Runs.moving();
        heap.begin(0, 4, 0);
        heap.begin(1, 4, 1);
        return heap;
    }

    private static ColouredHeap begun(Supplier<ColouredHeap> like) {
        ColouredHeap heap = like.get();
        heap.begin(1, 4, 2);
        return heap;
    }

    private static int lastLine(ColouredHeap heap, int what) {
        return heap.book(heap.book(-1, 0) - 1, what);
    }

    // ---- pages and pointers

    private static void pagesAndPointers() {
        edges.of("What it is", "An object is used for at most 512 calls after it has been made",
            EdgesOfHeapTest::the512thCall);
        edges.of("Terms", "PAGES 0 .. 7 of 8 words: ADDRESS 8 times the PAGE and a word's place (0 .. 63).",
            EdgesOfHeapTest::addresses);
        edges.of("Terms", "An OBJECT of n fields (0 .. 3) has n and 1 words of one PAGE one behind the other",
            EdgesOfHeapTest::wordsOfOnePage);
        edges.of("Terms", "A PAGE is FREE, IN USE or CHOSEN; USED: how many words from its first one on have been given"
            + " out.", EdgesOfHeapTest::usedFromTheFirst);
        edges.of("Terms", "A POINTER: 64 times a colour (0, 1 marks, 2 mended) and an ADDRESS; NONE: none.",
            EdgesOfHeapTest::leastAndGreatestPointer);
        edges.of("Terms", "ROOTS 0 .. 5: POINTERS (at first none).", EdgesOfHeapTest::rootsAtFirst);
        edges.of("Terms", "PHASE 0 idle, 1 MARKING, 2 MOVING (at first 0).", EdgesOfHeapTest::phasesInTurn);
        edges.of("Terms", "The good colour: at first 2; THE LATEST MARK: at first 1.", EdgesOfHeapTest::coloursInTurn);
        edges.of("Terms", "CLOCK 0 .. 9999 (at first 0).", EdgesOfHeapTest::clock);
        edges.of("Terms", "X: at first 463 (see V).", () -> edges.due("X", 463, new ColouredHeap().is(1)));
        edges.of("Terms", "BOOK (the latest 25).", EdgesOfHeapTest::latest25);
    }

    private static void the512thCall() {
        ColouredHeap heap = new ColouredHeap();
        for (int call = 1; call < 511; call += 2) {
            heap.make(0, 3);
            heap.undo();
        }
        heap.make(1, 2);
        edges.due("the 512th", 128, heap.root(1));
    }

    private static void addresses() {
        ColouredHeap heap = new ColouredHeap();
        for (int i = 0; i < 64; i++) {
            edges.due("make " + i, i, heap.make(i % 6, 0));
            edges.due("its page", i / 8, heap.is(5));
        }
        for (int page = 0; page < 8; page++) {
            edges.due("page " + page + " is full", 8, heap.page(page, 1));
        }
        edges.due("the first word", 1000, heap.at(0));
        edges.due("the last word", 1000, heap.at(63));
        edges.due("there is no word 64", -3, heap.at(64));
        edges.due("there is no page 8", -1, heap.page(8, 1));
        edges.due("no 65th", -1, heap.make(0, 0));
    }

    private static void wordsOfOnePage() {
        ColouredHeap heap = new ColouredHeap();
        edges.due("no fields", 0, heap.make(0, 0));
        edges.due("one word", 1, heap.page(0, 1));
        edges.due("three fields", 1, heap.make(0, 3));
        edges.due("four words more", 5, heap.page(0, 1));
        edges.due("its head", 1003, heap.at(1));
        edges.due("its last field", -1, heap.at(4));
        edges.due("nothing behind it", -2, heap.at(5));
        edges.due("four words where three are left", 8, heap.make(0, 3));
        edges.due("the three stay nothing", -2, heap.at(7));
        edges.due("nor are they used", 5, heap.page(0, 1));
    }

    private static void usedFromTheFirst() {
        ColouredHeap heap = new ColouredHeap();
        edges.due("free", 0, heap.page(0, 0));
        edges.due("none is used", 0, heap.page(0, 1));
        for (int words = 1; words <= 8; words++) {
            heap.make(0, 0);
            edges.due("in use", 1, heap.page(0, 0));
            edges.due("used", words, heap.page(0, 1));
        }
        heap.drop(0);
        edges.due("dead words are used, too", 8, heap.page(0, 1));
        ColouredHeap chosen = Runs.moving();
        edges.due("chosen", 2, chosen.page(0, 0));
        edges.due("its words are used", 7, chosen.page(0, 1));
        chosen.day(2);
        edges.due("free again", 0, chosen.page(0, 0));
        edges.due("none is used again", 0, chosen.page(0, 1));
    }

    private static void leastAndGreatestPointer() {
        ColouredHeap heap = new ColouredHeap();
        heap.make(0, 1);
        heap.start();
        edges.due("the least pointer", 0, heap.root(0));
        edges.due("copied", true, heap.copy(1, 0));
        edges.due("stored", true, heap.store(0, 0, 1));
        edges.due("the word", 0, heap.at(1));
        edges.due("loaded", 0, heap.load(2, 1, 0));
        edges.due("begun", 0, heap.begin(0, 0, 0));
        edges.due("finished", 0, heap.finish(0, 3));
        edges.due("where it leads", 0, heap.current(0));
        edges.due("dropped", true, heap.drop(0));
        edges.due("reached by others", true, heap.reached(0));
        ColouredHeap last = new ColouredHeap();
        for (int i = 0; i < 64; i++) {
            last.make(0, 0);
        }
        edges.due("the greatest pointer", 191, last.root(0));
        edges.due("where it leads", 63, last.current(191));
        last.start();
        edges.due("of the first mark", 63, last.root(0));
        edges.due("marked", true, last.marked(63));
        last.day(3);
        last.start();
        edges.due("of the second mark", 127, last.root(0));
    }

    private static void rootsAtFirst() {
        ColouredHeap heap = new ColouredHeap();
        for (int root = 0; root < 6; root++) {
            edges.due("root " + root, -1, heap.root(root));
        }
        edges.due("there is no root 6", -2, heap.root(6));
        edges.due("root 5 can be used", 0, heap.make(5, 0));
        edges.due("root 5", 128, heap.root(5));
    }

    private static void phasesInTurn() {
        ColouredHeap heap = new ColouredHeap();
        for (int i = 0; i < 7; i++) {
            edges.due("phase behind " + i + " ticks", i % 3, heap.is(2));
            heap.day(1);
        }
    }

    private static void coloursInTurn() {
        ColouredHeap heap = new ColouredHeap();
        int[] good = {2, 0, 2, 2, 1, 2, 2, 0, 2, 2, 1};
        for (int i = 0; i < good.length; i++) {
            edges.due("good behind " + i + " ticks", good[i], heap.is(3));
            heap.day(1);
        }
    }

    private static void clock() {
        edges.due("at first", 0, new ColouredHeap().is(0));
        ColouredHeap heap = Runs.atClock(9998);
        edges.due("one is left", true, heap.day(1) >= 0);
        edges.due("the last", 9999, heap.is(0));
        edges.due("no tick", -1, heap.day(1));
        edges.due("it stays", 9999, heap.is(0));
        edges.due("what isn't a tick can be", true, heap.start());
    }

    private static void latest25() {
        ColouredHeap heap = new ColouredHeap();
        for (int i = 0; i < 64; i++) {
            heap.make(0, 0);
            int count = Math.min(i + 1, 25);
            edges.due("lines behind " + i, count, heap.book(-1, 0));
            edges.due("the eldest behind " + i, i + 1 - count, heap.book(0, 2));
            edges.due("the latest behind " + i, i, heap.book(count - 1, 2));
            edges.due("none behind it", -2, heap.book(count, 2));
        }
    }

    // ---- giving out

    private static void givingOut() {
        edges.of("Terms", "GIVEN OUT, to make or to move: on the PAGE for that (two, one each; at first none)",
            EdgesOfHeapTest::twoPages);
        edges.of("Terms", "behind what is USED, if there is room", EdgesOfHeapTest::roomInTheLastWords);
        edges.of("Terms", "else on the lowest FREE PAGE, which is IN USE and the PAGE for that then",
            EdgesOfHeapTest::lowestFreePage);
        edges.of("Terms", "none FREE: no room", EdgesOfHeapTest::noneFree);
    }

    private static void twoPages() {
        ColouredHeap heap = new ColouredHeap();
        edges.due("none to make on", -1, heap.is(5));
        edges.due("none to move on", -1, heap.is(6));
        ColouredHeap moving = Runs.moving();
        edges.due("none to move on yet", -1, moving.is(6));
        moving.day(1);
        edges.due("one to make on", 1, moving.is(5));
        edges.due("one to move on", 2, moving.is(6));
        edges.due("made on its own", 12, moving.make(0, 1));
    }

    private static void roomInTheLastWords() {
        ColouredHeap heap = new ColouredHeap();
        heap.make(0, 3);
        edges.due("to the last word of the page", 4, heap.make(0, 3));
        edges.due("full", 8, heap.page(0, 1));
        edges.due("one word more", 8, heap.make(0, 0));
        ColouredHeap fours = threeToMove(3);
        fours.day(3);
        edges.due("the first moved", 32, fours.forward(0));
        edges.due("the second, to the last word of the page", 36, fours.forward(8));
        edges.due("the third, on the next page", 40, fours.forward(16));
        ColouredHeap threes = threeToMove(2);
        threes.day(3);
        edges.due("the second of three words", 35, threes.forward(8));
        edges.due("three words where two are left", 40, threes.forward(16));
    }

    private static void lowestFreePage() {
        ColouredHeap heap = cycled();
        edges.due("page 0 is free", 0, heap.page(0, 0));
        edges.due("room on the page for making", 12, heap.make(0, 3));
        edges.due("then the lowest", 0, heap.make(0, 0));
        edges.due("in use", 1, heap.page(0, 0));
        edges.due("the page for making", 0, heap.is(5));
        edges.due("the next one behind it", 1, heap.make(0, 3));
        ColouredHeap moving = threeToMove(3);
        moving.make(0, 3);
        edges.due("made on the lowest", 32, moving.make(0, 0));
        moving.day(1);
        edges.due("moved on the lowest then", 40, moving.forward(0));
        edges.due("in use", 1, moving.page(5, 0));
        edges.due("the page for moving", 5, moving.is(6));
        edges.due("not that for making", 4, moving.is(5));
    }

    private static void noneFree() {
        ColouredHeap heap = Runs.filled();
        heap.undo();
        edges.due("to make", -1, heap.make(0, 0));
        ColouredHeap full = Runs.full();
        full.day(1);
        edges.due("to move", -1, full.forward(1));
        ColouredHeap part = new ColouredHeap();
        for (int i = 0; i < 15; i++) {
            part.make(0, 3);
        }
        part.make(0, 1);
        edges.due("room on the page for making is left", -1, part.make(0, 2));
        edges.due("for two words", 62, part.make(0, 1));
        ColouredHeap moves = threeToMove(2);
        moves.day(1);
        for (int i = 0; i < 7; i++) {
            moves.make(5, 3);
        }
        edges.due("no page is free", 0, moves.foretold(1, 1));
        moves.day(1);
        edges.due("room on the page for moving is left", 35, moves.forward(8));
        moves.day(1);
        edges.due("for no third", -1, moves.forward(16));
    }

    // ---- the barrier

    private static void barrier() {
        edges.of("Terms", "FORWARD of an ADDRESS: another one, or none (at first).", EdgesOfHeapTest::forwardAtFirst);
        edges.of("Terms", "WHERE a POINTER leads: if its colour is good, or 2, to its ADDRESS; else to FORWARD of that,"
            + " if there is one, else to it.", EdgesOfHeapTest::whereItLeads);
        edges.of("Terms", "MENDED by the barrier: a POINTER that isn't none and whose colour isn't good.",
            EdgesOfHeapTest::notMended);
        edges.of("Terms", "the ADDRESS WHERE it leads is MARKED, if it isn't, and lies on the STACK then",
            EdgesOfHeapTest::onTheStackOnce);
        edges.of("Terms", "if that PAGE is CHOSEN and there is no FORWARD yet, the OBJECT is MOVED first",
            EdgesOfHeapTest::movedOnce);
        edges.of("Terms", "the OBJECT is MOVED first: words for it GIVEN OUT, all words copied",
            EdgesOfHeapTest::allWordsAlone);
        edges.of("Terms", "FORWARD told (it is MARKED then, too; the old one stays MARKED)",
            EdgesOfHeapTest::bothMarked);
        edges.of("Terms", "(Idle: WHERE it did.)", EdgesOfHeapTest::mendedWhileIdle);
    }

    private static void forwardAtFirst() {
        ColouredHeap heap = Runs.moving();
        for (int address = 0; address < 64; address++) {
            edges.due("forward of " + address, -1, heap.forward(address));
        }
        ColouredHeap far = threeToMove(3);
        far.day(3);
        edges.due("the least address", 32, far.forward(0));
        edges.due("words within have none", -1, far.forward(1));
        forwardToTheFirst();
    }

    /** Page 0 is free when page 1 is chosen: the object at 8 goes to 0. Root 3 has one at 16 that leads to it twice. */
    private static ColouredHeap toTheFirst() {
        ColouredHeap heap = new ColouredHeap();
        heap.make(5, 3);
        heap.make(5, 3);
        heap.make(0, 2);
        heap.make(5, 3);
        heap.make(3, 2);
        heap.store(3, 0, 0);
        heap.store(3, 1, 0);
        heap.drop(0);
        heap.drop(5);
        heap.start();
        heap.day(2);
        heap.choose();
        return heap;
    }

    private static void forwardToTheFirst() {
        ColouredHeap heap = toTheFirst();
        heap.day(1);
        edges.due("the address 0 is another one", 0, heap.forward(8));
        edges.due("copied", 1002, heap.at(0));
        edges.due("marked", true, heap.marked(0));
        edges.due("a stale pointer leads there", 0, heap.current(8));
        edges.due("loaded", 128, heap.load(1, 3, 0));
        edges.due("not moved again", 3, heap.page(0, 1));
        edges.due("the end", 0, heap.day(1));
        ColouredHeap threads = toTheFirst();
        edges.due("a copy at 0", 1, threads.begin(0, 3, 0));
        edges.due("a copy at 3", 1, threads.begin(1, 3, 1));
        edges.due("alike", 1, threads.alike());
        edges.due("told", 128, threads.finish(0, 0));
        edges.due("the other one's", 128, threads.finish(1, 1));
        edges.due("is the last", 3, threads.page(0, 1));
        ColouredHeap late = toTheFirst();
        late.begin(0, 3, 0);
        edges.due("moved by a load", 131, late.load(1, 3, 1));
        edges.due("the copy at 0 was late", 131, late.finish(0, 0));
        edges.due("and stays", 1002, late.at(0));
        edges.due("not marked", false, late.marked(0));
    }

    private static void whereItLeads() {
        ColouredHeap heap = cycled();
        edges.due("idle: a mark with forward", 16, heap.current(1));
        edges.due("the other mark", 16, heap.current(65));
        edges.due("mended", 1, heap.current(129));
        edges.due("a mark without forward", 2, heap.current(2));
        edges.due("the other mark without", 63, heap.current(127));
        heap.start();
        edges.due("marking by 1: the old mark", 16, heap.current(1));
        edges.due("the good one", 1, heap.current(65));
        edges.due("mended", 1, heap.current(129));
        edges.due("the old mark without forward", 63, heap.current(63));
    }

    private static void notMended() {
        ColouredHeap heap = started();
        int lines = heap.book(-1, 0);
        edges.due("none", -1, heap.load(0, 4, 2));
        edges.due("nothing is marked for it", 1, heap.is(4));
        edges.due("nor written down", lines, heap.book(-1, 0));
        edges.due("a stale one", 1, heap.load(0, 4, 0));
        edges.due("is marked", 2, heap.is(4));
        edges.due("a good one", 1, heap.load(0, 4, 0));
        edges.due("is not once more", 2, heap.is(4));
        edges.due("one line", lines + 1, heap.book(-1, 0));
        ColouredHeap moving = Runs.moving();
        moving.load(0, 4, 0);
        edges.due("a good one while moving", 144, moving.load(1, 4, 0));
        edges.due("is not moved again", 3, moving.page(2, 1));
        ColouredHeap dead = Runs.shared();
        dead.drop(4);
        edges.due("no roots at all", true, dead.start());
        edges.due("an empty stack", 0, dead.is(4));
    }

    private static void onTheStackOnce() {
        ColouredHeap heap = new ColouredHeap();
        heap.make(0, 1);
        heap.store(0, 0, 0);
        for (int root = 1; root < 6; root++) {
            heap.copy(root, 0);
        }
        heap.start();
        edges.due("six roots to one object", 1, heap.is(4));
        edges.due("its words live once", 2, heap.page(0, 2));
        heap.day(1);
        edges.due("its field leads to itself", 0, heap.is(4));
        ColouredHeap made = started();
        made.make(0, 1);
        made.store(4, 2, 0);
        made.day(1);
        edges.due("one made while marking lies not on it", 1, made.is(4));
        ColouredHeap most = new ColouredHeap();
        for (int i = 0; i < 6; i++) {
            most.make(i, 0);
        }
        most.start();
        edges.due("all six roots", 6, most.is(4));
    }

    private static void movedOnce() {
        ColouredHeap heap = Runs.moving();
        edges.due("moved by a load", 144, heap.load(0, 4, 0));
        edges.due("the other field", 144, heap.load(1, 4, 1));
        edges.due("three words alone", 3, heap.page(2, 1));
        edges.due("one line", 1, heap.ledger(4));
        ColouredHeap stays = Runs.moving();
        stays.store(4, 2, 4);
        edges.due("a page that isn't chosen", 136, stays.load(0, 4, 2));
        edges.due("nothing is moved", 0, stays.ledger(4));
        ColouredHeap two = Runs.shared();
        two.load(0, 4, 0);
        two.copy(1, 0);
        two.start();
        two.day(2);
        two.choose();
        edges.due("two roots: the first", 144, two.root(0));
        edges.due("the second", 144, two.root(1));
        edges.due("moved once", 1, two.ledger(4));
    }

    private static void allWordsAlone() {
        for (int fields = 2; fields <= 3; fields++) {
            ColouredHeap heap = threeToMove(fields);
            heap.day(1);
            for (int word = 0; word <= fields; word++) {
                edges.due("word " + word + " of " + fields, heap.at(word), heap.at(32 + word));
                edges.due("it stays", word == 0 ? 1000 + fields : -1, heap.at(word));
            }
            edges.due("nothing behind them", -2, heap.at(33 + fields));
            edges.due("used", fields + 1, heap.page(4, 1));
        }
    }

    private static void bothMarked() {
        ColouredHeap heap = Runs.moving();
        heap.day(1);
        edges.due("the new one", true, heap.marked(16));
        edges.due("the old one", true, heap.marked(1));
        edges.due("lives in the new page", 3, heap.page(2, 2));
        edges.due("and in the old", 3, heap.page(0, 2));
    }

    private static void mendedWhileIdle() {
        ColouredHeap heap = cycled();
        edges.due("a stale one", 1, heap.at(9));
        edges.due("loaded", 144, heap.load(0, 4, 0));
        edges.due("its word", 144, heap.at(9));
        edges.due("not on the stack", 0, heap.is(4));
        ColouredHeap stays = new ColouredHeap();
        stays.make(0, 1);
        stays.store(0, 0, 0);
        stays.start();
        stays.day(3);
        edges.due("idle", 0, stays.is(2));
        edges.due("a stale one without forward", 0, stays.at(1));
        edges.due("loaded where it is", 128, stays.load(1, 0, 0));
    }

    // ---- making

    private static void making() {
        edges.of("Terms", "MADE: an OBJECT of so many fields (none each) is GIVEN OUT", EdgesOfHeapTest::fieldsAreNone);
        edges.of("Terms", "in MARKING and MOVING it is MARKED (not on the STACK)", EdgesOfHeapTest::markedWhenMade);
        edges.of("Terms", "then so many TICKS pass as paces says (as all is ahead of MADE; 9 at most, while they can;"
            + " they are of that STEP).", EdgesOfHeapTest::ticksOfMaking);
        edges.of("Promise 7", "NONE, if there is no room, and for others (0 .. 5; 0 .. 3).",
            EdgesOfHeapTest::notMade);
    }

    private static void fieldsAreNone() {
        ColouredHeap heap = new ColouredHeap();
        for (int fields = 0; fields <= 3; fields++) {
            int address = heap.make(fields, fields);
            edges.due("head of " + fields, 1000 + fields, heap.at(address));
            for (int field = 0; field < fields; field++) {
                edges.due("field " + field, -1, heap.at(address + 1 + field));
                edges.due("loaded", -1, heap.load(5, fields, field));
            }
        }
        ColouredHeap again = cycled();
        again.make(0, 3);
        edges.due("on a page that was freed", 0, again.make(0, 3));
        edges.due("its first field", -1, again.at(1));
        edges.due("its last field", -1, again.at(3));
        edges.due("nothing behind it", -2, again.at(4));
    }

    private static void markedWhenMade() {
        ColouredHeap idle = cycled();
        idle.make(0, 0);
        edges.due("idle", false, idle.marked(12));
        ColouredHeap marking = started();
        marking.make(0, 0);
        edges.due("marking", true, marking.marked(12));
        edges.due("the stack", 1, marking.is(4));
        edges.due("it lives", 5, marking.page(1, 2));
        ColouredHeap moving = Runs.moving();
        moving.make(0, 0);
        edges.due("moving", true, moving.marked(12));
        edges.due("the stack", 0, moving.is(4));
        edges.due("it lives", 5, moving.page(1, 2));
    }

    private static ColouredHeap paced(int clock, String law) {
        ColouredHeap heap = Runs.atClock(clock);
        heap.by(Runs.tell(heap, law));
        return heap;
    }

    private static void ticksOfMaking() {
        ColouredHeap ahead = Runs.ruled("paces free*9/8-used 0-live 0;");
        ahead.make(0, 3);
        edges.due("as all is ahead", 9, ahead.is(0));
        ahead.make(0, 3);
        edges.due("none now: 7 are free, 4 are used, 4 live", 9, ahead.is(0));
        ColouredHeap most = Runs.ruled("paces 10;");
        most.make(0, 0);
        edges.due("9 at most", 9, most.is(0));
        edges.due("one step", 1, most.about(2));
        most.undo();
        edges.due("taken back with it", 0, most.is(0));
        edges.due("its object, too", -2, most.at(0));
        ColouredHeap none = Runs.ruled("paces -1;");
        none.make(0, 0);
        edges.due("none below 0", 0, none.is(0));
        for (int clock = 9988; clock <= 9999; clock++) {
            ColouredHeap late = paced(clock, "paces 9;");
            edges.due("made at " + clock, 0, late.make(0, 0));
            edges.due("while they can from " + clock, Math.min(9999, clock + 9), late.is(0));
        }
        ColouredHeap full = Runs.filled();
        full.by(Runs.tell(full, "paces 9;"));
        edges.due("not made", -1, full.make(0, 0));
        edges.due("no ticks", 0, full.is(0));
    }

    private static ColouredHeap oneWordLeft() {
        ColouredHeap heap = new ColouredHeap();
        for (int i = 0; i < 15; i++) {
            heap.make(0, 3);
        }
        heap.make(0, 2);
        return heap;
    }

    private static void notMade() {
        for (int root : Edges.others(0, 5)) {
            edges.refused("make root " + root, -1, Runs::shared, heap -> heap.make(root, 0));
        }
        for (int fields : Edges.others(0, 3)) {
            edges.refused("make " + fields + " fields", -1, Runs::shared, heap -> heap.make(0, fields));
        }
        for (int fields = 0; fields <= 3; fields++) {
            int more = fields;
            edges.refused("no room for " + fields, -1, Runs::filled, heap -> heap.make(0, more));
        }
        for (int fields = 1; fields <= 3; fields++) {
            int more = fields;
            edges.refused("one word for " + fields, -1, EdgesOfHeapTest::oneWordLeft, heap -> heap.make(0, more));
        }
        edges.due("one word for one", 63, oneWordLeft().make(5, 0));
    }

    // ---- roots

    private static void roots() {
        edges.of("Terms", "LOADED: the field (from 0) of the OBJECT of a ROOT (at its POINTER's ADDRESS; that has it) is"
            + " MENDED", EdgesOfHeapTest::fieldsThatItHas);
        edges.of("Terms", "(if that needs room and there is none, it can't be)", EdgesOfHeapTest::loadsWithoutRoom);
        edges.of("Promise 8", "NONE: it is none.", EdgesOfHeapTest::loadOfNone);
        edges.of("Promise 8", "-2, if it can't be, and for others.", EdgesOfHeapTest::notLoaded);
        edges.of("Terms", "STORED: the POINTER of a ROOT (none, too) into a field.", EdgesOfHeapTest::noneIsStored);
        edges.of("Promise 9", "False, if it can't be, and for others.", EdgesOfHeapTest::notStored);
        edges.of("Promise 10", "False, if it is none, and for others.", EdgesOfHeapTest::notDropped);
        edges.of("Promise 11", "False for others (unlike ROOTS).", EdgesOfHeapTest::notCopied);
    }

    private static void fieldsThatItHas() {
        ColouredHeap heap = new ColouredHeap();
        for (int fields = 0; fields <= 3; fields++) {
            heap.make(fields, fields);
            for (int field = 0; field < fields; field++) {
                heap.store(fields, field, fields - 1 - field);
            }
        }
        for (int fields = 0; fields <= 3; fields++) {
            for (int field = 0; field <= 3; field++) {
                int want = field < fields ? heap.root(fields - 1 - field) : -2;
                edges.due("field " + field + " of " + fields, want, heap.load(5, fields, field));
            }
        }
    }

    private static void loadsWithoutRoom() {
        edges.refused("it must be moved", -2, Runs::full, heap -> heap.load(0, 4, 0));
        ColouredHeap heap = Runs.full();
        edges.due("none needs no room", -1, heap.load(0, 4, 2));
        heap.store(4, 2, 5);
        edges.due("a good one needs no room", heap.root(5), heap.load(0, 4, 2));
        ColouredHeap moved = Runs.moving();
        moved.day(1);
        for (int i = 0; i < 11; i++) {
            moved.make(5, 3);
        }
        edges.due("no page is free", -1, moved.make(5, 3));
        edges.due("what has been moved needs no room", 144, moved.load(0, 4, 0));
    }

    private static void loadOfNone() {
        ColouredHeap heap = Runs.shared();
        heap.make(5, 0);
        int steps = heap.about(2);
        edges.due("load of none", -1, heap.load(5, 4, 2));
        edges.due("the root is none", -1, heap.root(5));
        edges.due("a step", steps + 1, heap.about(2));
    }

    private static void notLoaded() {
        for (int root : Edges.others(0, 5)) {
            edges.refused("into " + root, -2, Runs::shared, heap -> heap.load(root, 4, 0));
            edges.refused("from " + root, -2, Runs::shared, heap -> heap.load(0, root, 0));
        }
        for (int field : Edges.others(0, 2)) {
            edges.refused("field " + field, -2, Runs::shared, heap -> heap.load(0, 4, field));
        }
        edges.refused("from none", -2, Runs::shared, heap -> heap.load(0, 0, 0));
        edges.refused("field 1 of one", -2, Runs::row, heap -> heap.load(5, 0, 1));
    }

    private static void noneIsStored() {
        ColouredHeap heap = Runs.shared();
        edges.due("none", true, heap.store(4, 0, 5));
        edges.due("the word", -1, heap.at(9));
        edges.due("none into the last field", true, heap.store(4, 2, 0));
        edges.due("its word", -1, heap.at(11));
        edges.due("the first one's address", true, heap.store(4, 2, 4));
        edges.due("itself", 136, heap.at(11));
    }

    private static void notStored() {
        for (int root : Edges.others(0, 5)) {
            edges.refused("into " + root, false, Runs::shared, heap -> heap.store(root, 0, 4));
            edges.refused("value " + root, false, Runs::shared, heap -> heap.store(4, 0, root));
        }
        for (int field : Edges.others(0, 2)) {
            edges.refused("field " + field, false, Runs::shared, heap -> heap.store(4, field, 4));
        }
        edges.refused("into none", false, Runs::shared, heap -> heap.store(0, 0, 4));
        edges.refused("field 1 of one", false, Runs::row, heap -> heap.store(0, 1, 0));
    }

    private static void notDropped() {
        for (int root : Edges.others(0, 5)) {
            edges.refused("drop " + root, false, Runs::shared, heap -> heap.drop(root));
        }
        edges.refused("drop of none", false, Runs::shared, heap -> heap.drop(5));
        ColouredHeap heap = Runs.row();
        edges.due("drop 0", true, heap.drop(0));
        edges.due("once more", false, heap.drop(0));
    }

    private static void notCopied() {
        for (int root : Edges.others(0, 5)) {
            edges.refused("copy into " + root, false, Runs::shared, heap -> heap.copy(root, 4));
            edges.refused("copy from " + root, false, Runs::shared, heap -> heap.copy(4, root));
        }
        for (int root = 0; root < 6; root++) {
            int like = root;
            edges.refused("copy " + root + " to itself", false, Runs::shared, heap -> heap.copy(like, like));
        }
        ColouredHeap heap = Runs.shared();
        int steps = heap.about(2);
        edges.due("none over none", true, heap.copy(0, 1));
        edges.due("a step", steps + 1, heap.about(2));
        edges.due("none over one", true, heap.copy(4, 0));
        edges.due("it is none", -1, heap.root(4));
    }

    // ---- threads

    private static void threads() {
        edges.of("Terms", "BEGUN by a THREAD (0, 1; one each)", EdgesOfHeapTest::oneEach);
        edges.of("Promise 12", "BEGUN: 1 with a copy, 0 without.", EdgesOfHeapTest::withoutCopy);
        edges.of("Terms", "a copy of its own is GIVEN OUT and copied (no room: it can't be), FORWARD not told yet",
            EdgesOfHeapTest::copyWithoutRoom);
        edges.of("Promise 12", "NONE, if it can't be, and for others.", EdgesOfHeapTest::notBegun);
        edges.of("Terms", "if that needs MOVED first and it has a copy, that copy is told as FORWARD (and MARKED, and"
            + " MOVED, written down)", EdgesOfHeapTest::copyIsTold);
        edges.of("Terms", "a copy not told: if it is the last of its PAGE, it is no longer USED (its words nothing)",
            EdgesOfHeapTest::copyIsLast);
        edges.of("Terms", "else it stays (not MARKED)", EdgesOfHeapTest::copyStays);
        edges.of("Terms", "If the word that was read has still the POINTER that was read, it is what was MENDED",
            EdgesOfHeapTest::wordStoredOver);
        edges.of("Terms", "so is the ROOT (NONE, if it was none)", EdgesOfHeapTest::rootOfNone);
        edges.of("Promise 13", "NONE: it is none.", EdgesOfHeapTest::finishOfNone);
        edges.of("Promise 13", "-2, if none is BEGUN, and for others.", EdgesOfHeapTest::notFinished);
    }

    private static void oneEach() {
        edges.refused("a second by 0", -1, EdgesOfHeapTest::begunBoth, heap -> heap.begin(0, 4, 2));
        edges.refused("a second by 1", -1, EdgesOfHeapTest::begunBoth, heap -> heap.begin(1, 4, 2));
        ColouredHeap heap = begunBoth();
        heap.finish(0, 0);
        edges.due("the other goes on", 2, heap.about(3));
        edges.due("once more, when it has finished", 0, heap.begin(0, 4, 2));
        edges.due("both", 3, heap.about(3));
    }

    private static void withoutCopy() {
        edges.due("idle", 0, Runs.shared().begin(0, 4, 0));
        edges.due("stale, while idle", 0, cycled().begin(0, 4, 0));
        edges.due("marking", 0, started().begin(0, 4, 0));
        edges.due("moving, of none", 0, Runs.moving().begin(0, 4, 2));
        edges.due("moving", 1, Runs.moving().begin(0, 4, 0));
        ColouredHeap good = Runs.moving();
        good.load(0, 4, 0);
        edges.due("moving, a good one", 0, good.begin(0, 4, 0));
        edges.due("moving, of what has been moved", 0, good.begin(1, 4, 1));
        ColouredHeap same = Runs.moving();
        same.begin(0, 4, 0);
        edges.due("the other's copy is not told yet", 1, same.begin(1, 4, 0));
        ColouredHeap stays = new ColouredHeap();
        stays.make(0, 1);
        stays.store(0, 0, 0);
        stays.start();
        stays.day(2);
        edges.due("moving", 2, stays.is(2));
        edges.due("a page that isn't chosen", 0, stays.begin(0, 0, 0));
    }

    private static void copyWithoutRoom() {
        edges.refused("no room for a copy", -1, Runs::full, heap -> heap.begin(0, 4, 0));
        edges.due("none needs none", 0, Runs.full().begin(0, 4, 2));
        ColouredHeap heap = Runs.moving();
        heap.begin(0, 4, 0);
        for (int i = 0; i < 11; i++) {
            heap.make(5, 3);
        }
        edges.due("room on the page for moving is left", 1, heap.begin(1, 4, 1));
        edges.due("its words", 6, heap.page(2, 1));
        edges.due("not told", -1, heap.forward(1));
        edges.due("not marked", false, heap.marked(19));
    }

    private static void notBegun() {
        for (int thread : Edges.others(0, 1)) {
            edges.refused("thread " + thread, -1, Runs::moving, heap -> heap.begin(thread, 4, 0));
        }
        for (int root : Edges.others(0, 5)) {
            edges.refused("from " + root, -1, Runs::moving, heap -> heap.begin(0, root, 0));
        }
        for (int field : Edges.others(0, 2)) {
            edges.refused("field " + field, -1, Runs::moving, heap -> heap.begin(0, 4, field));
        }
        edges.refused("from none", -1, Runs::moving, heap -> heap.begin(0, 0, 0));
        edges.refused("field 1 of one", -1, Runs::row, heap -> heap.begin(0, 0, 1));
    }

    private static void copyIsTold() {
        ColouredHeap heap = begunBoth();
        edges.due("finish", 147, heap.finish(1, 0));
        edges.due("told", 19, heap.forward(1));
        edges.due("marked", true, heap.marked(19));
        edges.due("lives", 3, heap.page(2, 2));
        int lines = heap.book(-1, 0);
        edges.due("moved", 4, heap.book(lines - 2, 1));
        edges.due("the old address", 1, heap.book(lines - 2, 2));
        edges.due("mended", 5, heap.book(lines - 1, 1));
        edges.due("the word", 10, heap.book(lines - 1, 2));
        ColouredHeap late = begunBoth();
        late.finish(0, 0);
        late.finish(1, 1);
        edges.due("decided once", 1, late.ledger(4));
        edges.due("for the first", 16, late.forward(1));
    }

    private static void copyIsLast() {
        ColouredHeap heap = begunBoth();
        heap.finish(0, 0);
        edges.due("the other", 144, heap.finish(1, 1));
        edges.due("no longer used", 3, heap.page(2, 1));
        for (int address = 19; address < 22; address++) {
            edges.due("word " + address, -2, heap.at(address));
        }
        edges.due("the told one stays", 1002, heap.at(16));
        ColouredHeap full = threeToMove(3);
        full.begin(0, 3, 0);
        full.begin(1, 3, 0);
        edges.due("a full page", 8, full.page(4, 1));
        full.finish(0, 0);
        full.finish(1, 1);
        edges.due("its last four words", 4, full.page(4, 1));
        edges.due("nothing", -2, full.at(36));
        full.day(1);
        edges.due("the next one is moved there", 36, full.forward(8));
        copiesOfAPageThatWasLeft();
    }

    /** The collector's own copy goes to page 3, as both threads' copies leave two words of page 2. */
    private static void copiesOfAPageThatWasLeft() {
        ColouredHeap heap = begunBoth();
        heap.day(1);
        edges.due("moved", 24, heap.forward(1));
        edges.due("finish", 152, heap.finish(1, 1));
        edges.due("the last of its page", 3, heap.page(2, 1));
        edges.due("finish", 152, heap.finish(0, 0));
        edges.due("the last of its page now", 0, heap.page(2, 1));
        edges.due("nothing is there", -2, heap.at(16));
        edges.due("in use yet", 1, heap.page(2, 0));
        edges.due("the page for moving", 3, heap.is(6));
    }

    private static void copyStays() {
        ColouredHeap heap = begunBoth();
        heap.finish(1, 1);
        edges.due("the other", 147, heap.finish(0, 0));
        edges.due("used", 6, heap.page(2, 1));
        edges.due("its head", 1002, heap.at(16));
        edges.due("not marked", false, heap.marked(16));
        edges.due("does not live", 3, heap.page(2, 2));
        ColouredHeap moved = Runs.moving();
        moved.begin(0, 4, 0);
        moved.day(1);
        edges.due("the collector's is behind it", 19, moved.forward(1));
        edges.due("finish", 147, moved.finish(0, 0));
        edges.due("used", 6, moved.page(2, 1));
    }

    private static void wordStoredOver() {
        ColouredHeap heap = begunBoth();
        heap.store(4, 0, 4);
        heap.store(4, 1, 0);
        int lines = heap.book(-1, 0);
        edges.due("by another one", 144, heap.finish(0, 0));
        edges.due("it stays", 136, heap.at(9));
        edges.due("moved, not mended", lines + 1, heap.book(-1, 0));
        edges.due("by none", 144, heap.finish(1, 1));
        edges.due("it stays none", -1, heap.at(10));
        ColouredHeap none = Runs.moving();
        none.begin(0, 4, 2);
        none.store(4, 2, 4);
        none.finish(0, 0);
        edges.due("none was read", 136, none.at(11));
        ColouredHeap same = Runs.moving();
        same.begin(0, 4, 0);
        same.finish(0, 0);
        edges.due("still the same", 144, same.at(9));
    }

    private static void rootOfNone() {
        ColouredHeap heap = Runs.moving();
        heap.make(5, 0);
        heap.begin(1, 4, 2);
        int lines = heap.book(-1, 0);
        heap.finish(1, 5);
        edges.due("the root", -1, heap.root(5));
        edges.due("the word", -1, heap.at(11));
        edges.due("no line", lines, heap.book(-1, 0));
        ColouredHeap over = begunBoth();
        over.store(4, 0, 4);
        over.finish(0, 5);
        edges.due("the root of a word that was stored over", 144, over.root(5));
    }

    private static void finishOfNone() {
        ColouredHeap heap = begun(Runs::moving);
        int steps = heap.about(2);
        edges.due("finish of none", -1, heap.finish(1, 0));
        edges.due("a step", steps + 1, heap.about(2));
        edges.due("finished", 0, heap.about(3));
    }

    private static void notFinished() {
        edges.refused("none has begun", -2, Runs::moving, heap -> heap.finish(0, 0));
        edges.refused("the other has begun", -2, () -> begun(Runs::moving), heap -> heap.finish(0, 0));
        for (int thread : Edges.others(0, 1)) {
            edges.refused("thread " + thread, -2, EdgesOfHeapTest::begunBoth, heap -> heap.finish(thread, 0));
        }
        for (int root : Edges.others(0, 5)) {
            edges.refused("into " + root, -2, EdgesOfHeapTest::begunBoth, heap -> heap.finish(0, root));
        }
        ColouredHeap heap = begunBoth();
        heap.finish(0, 0);
        edges.due("once more", -2, heap.finish(0, 0));
    }

    // ---- marking

    private static void marking() {
        edges.of("Terms", "MARKING begins (idle; nobody has BEGUN)", EdgesOfHeapTest::whoMayStart);
        edges.of("Promise 14", "False, if it can't be.", EdgesOfHeapTest::notStarted);
        edges.of("Terms", "THE LATEST MARK is the other one of 0, 1, that is good; nothing is MARKED, the STACK empty",
            EdgesOfHeapTest::nothingIsMarked);
        edges.of("Terms", "A MARK: the latest of the STACK goes; its fields in order are MENDED.",
            EdgesOfHeapTest::marksOfTheStack);
    }

    private static void whoMayStart() {
        edges.due("a new one", true, new ColouredHeap().start());
        edges.due("idle again", true, cycled().start());
        ColouredHeap heap = begun(Runs::shared);
        edges.due("somebody has begun", false, heap.start());
        heap.finish(1, 0);
        edges.due("nobody any more", true, heap.start());
    }

    private static void notStarted() {
        edges.refused("marking", false, EdgesOfHeapTest::started, ColouredHeap::start);
        edges.refused("marking, the stack empty", false, EdgesOfHeapTest::marked, ColouredHeap::start);
        edges.refused("moving", false, Runs::moving, ColouredHeap::start);
        edges.refused("thread 1 has begun", false, () -> begun(Runs::shared), ColouredHeap::start);
        edges.refused("thread 0 has begun", false, EdgesOfHeapTest::begunByTheFirst, ColouredHeap::start);
    }

    private static ColouredHeap begunByTheFirst() {
        ColouredHeap heap = Runs.shared();
        heap.begin(0, 4, 0);
        return heap;
    }

    private static void nothingIsMarked() {
        ColouredHeap heap = cycled();
        edges.due("marked yet", true, heap.marked(16));
        edges.due("lives yet", 3, heap.page(2, 2));
        heap.drop(4);
        heap.start();
        edges.due("the other mark", 1, heap.is(3));
        for (int address = 0; address < 64; address++) {
            edges.due("marked " + address, false, heap.marked(address));
        }
        edges.due("nothing lives", 0, heap.page(1, 2) + heap.page(2, 2));
        edges.due("the stack", 0, heap.is(4));
        heap.day(2);
        heap.start();
        edges.due("and the first again", 0, heap.is(3));
    }

    private static void marksOfTheStack() {
        fieldsOfTheLatest();
        ColouredHeap heap = new ColouredHeap();
        heap.make(0, 0);
        heap.make(1, 2);
        heap.make(2, 1);
        heap.make(3, 1);
        heap.store(1, 0, 2);
        heap.store(1, 1, 3);
        heap.drop(2);
        heap.drop(3);
        heap.start();
        edges.due("two roots", 2, heap.is(4));
        heap.day(1);
        edges.due("the latest root's, and its fields come", 3, heap.is(4));
        heap.day(1);
        edges.due("the latest field's: of none, nothing comes", 2, heap.is(4));
        heap.day(1);
        heap.day(1);
        edges.due("one without fields, the eldest, is the last", 0, heap.is(4));
        edges.due("marking yet", 1, heap.is(2));
    }

    private static void fieldsOfTheLatest() {
        ColouredHeap others = started();
        others.undo();
        others.make(0, 1);
        others.make(1, 1);
        others.store(1, 0, 0);
        others.drop(0);
        others.drop(1);
        others.start();
        others.day(2);
        edges.due("no other's fields are mended", 128 + 12, others.at(15));
        edges.due("nor what they lead to marked", false, others.marked(12));
        ColouredHeap order = new ColouredHeap();
        order.make(0, 2);
        order.make(1, 1);
        order.make(2, 1);
        order.make(3, 0);
        order.store(1, 0, 3);
        order.store(2, 0, 3);
        order.store(0, 0, 1);
        order.store(0, 1, 2);
        order.drop(1);
        order.drop(2);
        order.drop(3);
        order.start();
        order.day(2);
        edges.due("the second field's is marked first", 6, lastLine(order, 2));
    }

    // ---- choosing

    private static void choosing() {
        edges.of("Terms", "CHOSEN (MARKING; the STACK empty; nobody has BEGUN)", EdgesOfHeapTest::whoMayChoose);
        edges.of("Promise 15", "NONE, if it can't be.", EdgesOfHeapTest::notChosen);
        edges.of("Promise 15", "CHOSEN: how many PAGES.", EdgesOfHeapTest::howManyPages);
        edges.of("Terms", "no ADDRESS has FORWARD any more", EdgesOfHeapTest::forwardIsGone);
        edges.of("Terms", "PAGES IN USE (but those to make, to move on) without LIVE words (words of MARKED OBJECTS) are"
            + " FREE, nothing in them (each written down, by number)", EdgesOfHeapTest::pagesWithoutLife);
        edges.of("Terms", "the good colour is 2, PHASE MOVING; then PAGES IN USE", EdgesOfHeapTest::pickedWhileMoving);
        edges.of("Terms", "then PAGES IN USE (but those two)", EdgesOfHeapTest::butThoseTwo);
        edges.of("Terms", "by LIVE, least first, of like ones the lowest", EdgesOfHeapTest::leastFirst);
        edges.of("Terms", "while LIVE of them together is no more than 5 times the PAGES that are FREE then",
            EdgesOfHeapTest::fiveTimesFree);
        edges.of("Terms", "(one that is too much is left out, others may follow)", EdgesOfHeapTest::tooMuch);
        edges.of("Terms", "there is no PAGE to move on", EdgesOfHeapTest::noPageToMoveOn);
        edges.of("Terms", "ROOTS by number are MENDED", EdgesOfHeapTest::rootsByNumber);
    }

    private static void whoMayChoose() {
        ColouredHeap heap = begun(EdgesOfHeapTest::marked);
        edges.due("somebody has begun", -1, heap.choose());
        heap.finish(1, 0);
        edges.due("nobody any more", 1, heap.choose());
        ColouredHeap one = started();
        one.day(1);
        edges.due("one lies on the stack", 1, one.is(4));
        edges.due("not yet", -1, one.choose());
        one.day(1);
        edges.due("none does", 1, one.choose());
    }

    private static void notChosen() {
        edges.refused("idle", -1, ColouredHeap::new, ColouredHeap::choose);
        edges.refused("idle again", -1, EdgesOfHeapTest::cycled, ColouredHeap::choose);
        edges.refused("a stack", -1, EdgesOfHeapTest::started, ColouredHeap::choose);
        edges.refused("moving", -1, Runs::moving, ColouredHeap::choose);
        edges.refused("somebody has begun", -1, () -> begun(EdgesOfHeapTest::marked), ColouredHeap::choose);
    }

    private static void howManyPages() {
        ColouredHeap none = new ColouredHeap();
        none.start();
        edges.due("none of an empty heap", 0, none.choose());
        edges.due("moving all the same", 2, none.is(2));
        edges.due("written down", 2, lastLine(none, 1));
        edges.due("no pages", 0, lastLine(none, 2));
        edges.due("three", 7, lastLine(threeToMove(3), 2));
        ColouredHeap most = new ColouredHeap();
        for (int page = 0; page < 6; page++) {
            most.make(page, 0);
            most.make(5, 3);
            most.make(5, 2);
        }
        most.make(5, 0);
        most.drop(5);
        most.start();
        most.day(5);
        edges.due("pages 0 to 4 have life, page 5 has none", 5, most.choose());
        edges.due("the pages", 31, most.book(most.book(-1, 0) - 6, 2));
    }

    private static void forwardIsGone() {
        ColouredHeap heap = cycled();
        edges.due("forward", 16, heap.forward(1));
        heap.start();
        edges.due("it is there while marking", 16, heap.forward(1));
        heap.day(2);
        edges.due("the stack is empty", 0, heap.is(4));
        edges.due("still there", 16, heap.forward(1));
        heap.choose();
        for (int address = 0; address < 64; address++) {
            edges.due("forward of " + address, -1, heap.forward(address));
        }
        edges.due("an old mark leads to its own address", 1, heap.current(1));
    }

    private static void pagesWithoutLife() {
        ColouredHeap heap = Runs.filled();
        heap.drop(5);
        heap.start();
        edges.due("none is chosen", 0, heap.choose());
        int lines = heap.book(-1, 0);
        for (int page = 0; page < 7; page++) {
            edges.due("page " + page, 0, heap.page(page, 0));
            edges.due("its words", 0, heap.page(page, 1));
            edges.due("nothing in it", -2, heap.at(page * 8));
            edges.due("freed", 3, heap.book(lines - 8 + page, 1));
            edges.due("by number", page, heap.book(lines - 8 + page, 2));
        }
        edges.due("then chosen", 2, lastLine(heap, 1));
        edges.due("the page to make on stays", 1, heap.page(7, 0));
        edges.due("its words", 8, heap.page(7, 1));
        ColouredHeap moved = cycled();
        moved.drop(4);
        moved.start();
        moved.choose();
        edges.due("the page to move on stays", 1, moved.page(2, 0));
        edges.due("its words", 3, moved.page(2, 1));
        moved.day(1);
        moved.start();
        moved.choose();
        edges.due("it is no such page any more", 0, moved.page(2, 0));
        ColouredHeap unused = copiesLeft();
        edges.due("a page in use without used words", 0, unused.page(2, 1));
        unused.start();
        unused.day(2);
        unused.choose();
        edges.due("is free then", 0, unused.page(2, 0));
        edges.due("the page ahead of it is what it was", 1003, unused.at(8));
        edges.due("the page behind it is what it was", 1002, unused.at(24));
        ColouredHeap one = pages("picks 0;", 1, page(1, -4, -3));
        one.choose();
        edges.due("one live word keeps a page", 1, one.page(0, 0));
        edges.due("its dead words stay", 1003, one.at(1));
    }

    /** Idle: page 2 is in use, but none of its words are used; the object is at 24. */
    private static ColouredHeap copiesLeft() {
        ColouredHeap heap = begunBoth();
        heap.day(1);
        heap.finish(1, 1);
        heap.finish(0, 0);
        heap.drop(0);
        heap.drop(1);
        heap.day(1);
        return heap;
    }

    private static int chosen(ColouredHeap heap) {
        heap.choose();
        int bits = 0;
        for (int page = 0; page < 8; page++) {
            bits |= heap.page(page, 0) == 2 ? 1 << page : 0;
        }
        return bits;
    }

    private static void leastFirst() {
        edges.due("3 and 3: the lowest", 1, chosen(pages("picks 2-page;", 5, page(3, -4, -1), page(3, -4, -1))));
        edges.due("4 and 3: the least", 2, chosen(pages("picks 2-page;", 5, page(4, -4), page(3, -4, -1))));
        edges.due("3 and 4: the least", 1, chosen(pages("picks 2-page;", 5, page(3, -4, -1), page(4, -4))));
        edges.due("3 and 2: both", 3, chosen(pages("picks 2-page;", 5, page(3, -4, -1), page(2, -4, -2))));
        edges.due("4, 3 and 2: the two least", 6,
            chosen(pages("picks 3-page;", 4, page(4, -4), page(3, -4, -1), page(2, -4, -2))));
        edges.due("2, 2 and 2: the two lowest", 3,
            chosen(pages("picks 3-page;", 4, page(2, -4, -2), page(2, -4, -2), page(2, -4, -2))));
    }

    private static void fiveTimesFree() {
        edges.due("5 for one page", 1, chosen(pages("picks 1-page;", 6, page(4, 1, -3))));
        edges.due("6 for one page", 0, chosen(pages("picks 1-page;", 6, page(4, 2, -2))));
        edges.due("8 for one page", 0, chosen(pages("picks 1-page;", 6, page(4, 4))));
        edges.due("8 for two pages", 1, chosen(pages("picks 1-page;", 5, page(4, 4))));
        edges.due("1 for none", 0, chosen(pages("picks 1-page;", 7, page(1, -4, -3))));
        edges.due("4 and 1 for one page", 3, chosen(pages("picks 2-page;", 5, page(4, -4), page(1, -4, -3))));
        edges.due("4 and 2 for one page", 2, chosen(pages("picks 2-page;", 5, page(4, -4), page(2, -4, -2))));
        edges.due("one that is freed counts", 4,
            chosen(pages("picks 3-page;", 5, page(4, 1, -3), page(-4, -4), page(4, -4))));
    }

    private static void tooMuch() {
        ColouredHeap heap = pages("picks 3-page;", 4, page(4, -4), page(3, -4, -1), page(4, -4));
        edges.due("3 is chosen, 4 and 4 are left out", 2, chosen(heap));
        edges.due("left out: in use", 1, heap.page(0, 0));
        edges.due("left out: its objects stay", 1003, heap.at(0));
        edges.due("not picked: left out, another follows", 2,
            chosen(pages("picks page*(2-page);", 4, page(3, -4, -1), page(4, -4), page(2, -4, -2))));
    }

    private static void pickedWhileMoving() {
        edges.due("phase is 2", 1, chosen(pages("picks if phase=2 then 1-page else 0 end;", 1, page(1, -4, -3))));
        edges.due("phase is not 1", 0, chosen(pages("picks if phase=1 then 1-page else 0 end;", 1, page(1, -4, -3))));
        edges.due("those that were freed are free", 1,
            chosen(pages("picks if free=6 then 1-page else 0 end;", 1, page(1, -4, -3), page(-4, -4))));
    }

    private static void butThoseTwo() {
        ColouredHeap make = Runs.ruled("picks 1;");
        make.make(0, 0);
        make.make(1, 0);
        make.start();
        make.day(2);
        edges.due("the page to make on", 0, chosen(make));
        ColouredHeap move = cycled();
        move.by(Runs.tell(move, "picks 1;"));
        move.start();
        move.day(2);
        edges.due("that to move on, too", 0, chosen(move));
        move.day(1);
        move.start();
        move.day(2);
        edges.due("it is no such page any more", 4, chosen(move));
    }

    private static void rootsByNumber() {
        ColouredHeap heap = new ColouredHeap();
        heap.make(5, 1);
        heap.make(0, 1);
        heap.make(3, 2);
        heap.make(2, 3);
        heap.by(Runs.tell(heap, "picks 1;"));
        heap.start();
        edges.due("roots 0, 2, 3, 5 lie on the stack", 4, heap.is(4));
        heap.day(4);
        heap.choose();
        int lines = heap.book(-1, 0);
        int[] old = {2, 4, 0};
        for (int i = 0; i < 3; i++) {
            edges.due("moved " + i, old[i], heap.book(lines - 3 + i, 2));
        }
        edges.due("root 0", 128 + 16, heap.root(0));
        edges.due("root 3", 128 + 18, heap.root(3));
        edges.due("root 5", 128 + 21, heap.root(5));
        edges.due("root 2 is on the page to make on", 128 + 8, heap.root(2));
    }

    private static void noPageToMoveOn() {
        ColouredHeap heap = cycled();
        heap.start();
        heap.day(2);
        edges.due("that of the cycle before", 2, heap.is(6));
        heap.choose();
        edges.due("none", -1, heap.is(6));
        edges.due("its page was not chosen", 1, heap.page(2, 0));
    }

    // ---- moving

    private static void moving() {
        edges.of("Terms", "A MOVE: of CHOSEN PAGES the lowest MARKED OBJECT without FORWARD is MOVED",
            EdgesOfHeapTest::lowestMarked);
        edges.of("Terms", "none: all CHOSEN ones are FREE, nothing in them or MARKED, PHASE idle (FORWARD stays)",
            EdgesOfHeapTest::endOfMoving);
    }

    private static void lowestMarked() {
        ColouredHeap heap = threeToMove(3);
        heap.load(0, 3, 1);
        edges.due("moved by a load", 32, heap.forward(8));
        heap.day(1);
        edges.due("the lowest", 36, heap.forward(0));
        heap.day(1);
        edges.due("the one that is left", 40, heap.forward(16));
        edges.due("dead ones never", -1, heap.forward(4));
        edges.due("moving yet", 2, heap.is(2));
        edges.due("the end", 0, heap.day(1));
        ColouredHeap dropped = Runs.moving();
        dropped.drop(4);
        dropped.day(1);
        edges.due("marked, though it is not reached any more", 16, dropped.forward(1));
    }

    private static void endOfMoving() {
        ColouredHeap heap = threeToMove(3);
        heap.day(4);
        edges.due("idle", 0, heap.is(2));
        for (int page = 0; page < 3; page++) {
            edges.due("page " + page, 0, heap.page(page, 0));
            edges.due("used", 0, heap.page(page, 1));
            edges.due("live", 0, heap.page(page, 2));
            edges.due("nothing", -2, heap.at(page * 8));
            edges.due("nothing within", -2, heap.at(page * 8 + 7));
            edges.due("not marked", false, heap.marked(page * 8));
            edges.due("forward stays", 32 + page * 4, heap.forward(page * 8));
            edges.due("freed by number", page, heap.book(heap.book(-1, 0) - 3 + page, 2));
        }
        ColouredHeap none = new ColouredHeap();
        none.start();
        none.choose();
        int lines = none.book(-1, 0);
        edges.due("none was chosen", 0, none.day(1));
        edges.due("nothing is freed", lines, none.book(-1, 0));
    }

    // ---- ticks

    private static void ticks() {
        edges.of("Terms", "MARKING: a MARK, or, the STACK empty, CHOSEN", EdgesOfHeapTest::markOrChosen);
        edges.of("Terms", "(what can't be, no room, too, isn't; while someone has BEGUN a MOVE that would end it isn't)",
            EdgesOfHeapTest::ticksThatDoNothing);
        edges.of("Terms", "CLOCK is one more (at 9999 none can pass)", EdgesOfHeapTest::noneCanPass);
        edges.of("Promise 16", "TICKS pass (1 .. 60): the PHASE then.", EdgesOfHeapTest::oneToSixty);
        edges.of("Promise 16", "NONE for others, or beyond 9999 (nothing is done then).",
            EdgesOfHeapTest::noDay);
    }

    private static void markOrChosen() {
        ColouredHeap heap = started();
        edges.due("a mark", 1, heap.day(1));
        edges.due("the last mark", 1, heap.day(1));
        edges.due("the stack is empty", 0, heap.is(4));
        edges.due("chosen", 2, heap.day(1));
        edges.due("page 0", 2, heap.page(0, 0));
    }

    /** A tick changes the clock, and what can be taken back, alone. */
    private static void idleTick(String what, Supplier<ColouredHeap> like) {
        ColouredHeap heap = like.get();
        ColouredHeap before = like.get();
        int phase = before.is(2);
        edges.due(what + ", the phase", phase, heap.day(1));
        edges.due(what + ", the clock", before.is(0) + 1, heap.is(0));
        edges.due(what + ", a step", before.about(2) + 1, heap.about(2));
        edges.due(what + ", lines", before.book(-1, 0), heap.book(-1, 0));
        edges.due(what + ", the good colour", before.is(3), heap.is(3));
        for (int address = 0; address < 64; address++) {
            edges.due(what + ", word " + address, before.at(address), heap.at(address));
            edges.due(what + ", forward " + address, before.forward(address), heap.forward(address));
            edges.due(what + ", marked " + address, before.marked(address), heap.marked(address));
        }
        for (int page = 0; page < 8; page++) {
            edges.due(what + ", page " + page, before.page(page, 0), heap.page(page, 0));
        }
        heap.undo();
        edges.dueAlike(what + ", taken back", Runs.all(before), Runs.all(heap));
    }

    private static void ticksThatDoNothing() {
        idleTick("idle, somebody has begun", () -> begun(Runs::shared));
        idleTick("marking, the stack empty, somebody has begun", () -> begun(EdgesOfHeapTest::marked));
        idleTick("moving, no room", Runs::full);
        idleTick("moving, somebody has begun, all is moved", EdgesOfHeapTest::movedButBegun);
        ColouredHeap begun = begun(Runs::moving);
        begun.day(1);
        edges.due("a move that doesn't end it can be", 16, begun.forward(1));
        ColouredHeap marks = begun(EdgesOfHeapTest::started);
        marks.day(1);
        edges.due("so can a mark", true, marks.marked(1));
        ColouredHeap heap = movedButBegun();
        heap.finish(1, 0);
        edges.due("when nobody has begun, it ends", 0, heap.day(1));
        ColouredHeap room = Runs.full();
        room.day(1);
        edges.due("it waits for room", 2, room.day(60));
    }

    private static ColouredHeap movedButBegun() {
        ColouredHeap heap = begun(Runs::moving);
        heap.day(1);
        return heap;
    }

    private static void noneCanPass() {
        ColouredHeap heap = Runs.atClock(9998);
        edges.due("the last tick", 0, heap.day(1));
        edges.due("clock", 9999, heap.is(0));
        edges.due("by hand", -1, heap.day(1));
        heap.by(Runs.tell(heap, "paces 9; day 1;"));
        edges.due("by making", 0, heap.make(0, 0));
        edges.due("by a script", 1, heap.played(0));
        edges.due("by draws", 9999, heap.years(1, 40));
        edges.due("clock stays", 9999, heap.is(0));
        edges.due("no tick was done", 0, heap.is(2));
    }

    private static void oneToSixty() {
        ColouredHeap heap = new ColouredHeap();
        edges.due("1", 1, heap.day(1));
        edges.due("clock", 1, heap.is(0));
        edges.due("60", 1, heap.day(60));
        edges.due("clock then", 61, heap.is(0));
        ColouredHeap late = Runs.atClock(9939);
        edges.due("60 to 9999", 0, late.day(60));
        edges.due("the last", 9999, late.is(0));
    }

    private static void noDay() {
        for (int n : Edges.others(1, 60)) {
            edges.refused("day " + n, -1, Runs::shared, heap -> heap.day(n));
        }
        edges.refused("60 from 9940", -1, () -> Runs.atClock(9940), heap -> heap.day(60));
        edges.refused("2 from 9998", -1, () -> Runs.atClock(9998), heap -> heap.day(2));
        edges.refused("1 from 9999", -1, () -> Runs.atClock(9999), heap -> heap.day(1));
    }

    // ---- lines

    private static void lines() {
        edges.of("Terms", "mended (a word of an OBJECT by LOADED, FINISHED or a MARK, if it is another one then) are"
            + " written down.", EdgesOfHeapTest::wordsThatAreOthers);
    }

    private static void wordsThatAreOthers() {
        ColouredHeap heap = started();
        edges.due("roots are no words of objects", 0, heap.ledger(5));
        heap.load(0, 4, 2);
        edges.due("none stays", 0, heap.ledger(5));
        heap.load(0, 4, 0);
        edges.due("by a load", 1, heap.ledger(5));
        heap.load(0, 4, 0);
        edges.due("it is no other one", 1, heap.ledger(5));
        heap.begin(0, 4, 0);
        heap.finish(0, 0);
        edges.due("nor by a finished read", 1, heap.ledger(5));
        heap.begin(0, 4, 1);
        heap.finish(0, 0);
        edges.due("by a finished read", 2, heap.ledger(5));
        heap.day(2);
        edges.due("all three are good, or none: no line by a mark", 2, heap.ledger(5));
        heap.store(4, 2, 4);
        edges.due("nor by a store", 2, heap.ledger(5));
        ColouredHeap marks = started();
        marks.day(1);
        edges.due("by a mark", 2, marks.ledger(5));
        edges.due("its last word", 10, lastLine(marks, 2));
    }

    // ---- steps

    private static void steps() {
        edges.of("Terms", "the latest 30 can be taken back, the latest first", EdgesOfHeapTest::latest30);
        edges.of("Terms", "a TICK by hand (each)", EdgesOfHeapTest::eachTick);
        edges.of("Terms", "(all of I is as ahead of it)", EdgesOfHeapTest::asAhead);
        edges.of("Promise 19", "The latest STEP is taken back: how many can be yet.", EdgesOfHeapTest::howManyYet);
        edges.of("Promise 19", "NONE: there is none.", EdgesOfHeapTest::noStep);
    }

    private static void latest30() {
        ColouredHeap heap = new ColouredHeap();
        for (int i = 1; i <= 64; i++) {
            heap.make(0, 0);
            edges.due("steps behind " + i, Math.min(i, 30), heap.about(2));
        }
        for (int i = 29; i >= 20; i--) {
            edges.due("undo", i, heap.undo());
            edges.due("the latest first", 128 + 34 + i - 1, heap.root(0));
        }
        for (int i = 0; i < 10; i++) {
            heap.make(1, 0);
        }
        edges.due("30 again", 30, heap.about(2));
        for (int i = 29; i >= 0; i--) {
            edges.due("undo again", i, heap.undo());
        }
        edges.due("no more", -1, heap.undo());
        edges.due("the first 34 stay", 2, heap.page(4, 1));
        edges.due("the root then", 128 + 33, heap.root(0));
    }

    private static void eachTick() {
        ColouredHeap heap = new ColouredHeap();
        heap.day(60);
        edges.due("30 of 60", 30, heap.about(2));
        edges.due("undo", 29, heap.undo());
        edges.due("one tick", 59, heap.is(0));
        for (int i = 0; i < 29; i++) {
            heap.undo();
        }
        edges.due("all that can be", 30, heap.is(0));
        edges.due("no more", -1, heap.undo());
        ColouredHeap one = new ColouredHeap();
        one.day(3);
        edges.due("three", 3, one.about(2));
    }

    /** One step more, and all is as ahead of it when it is taken back. */
    private static void takenBack(String what, Supplier<ColouredHeap> like, Consumer<ColouredHeap> deed) {
        ColouredHeap before = like.get();
        ColouredHeap heap = like.get();
        deed.accept(heap);
        edges.due(what + ", a step", before.about(2) + 1, heap.about(2));
        edges.due(what + ", undo", before.about(2), heap.undo());
        edges.dueAlike(what + ", taken back", Runs.all(before), Runs.all(heap));
    }

    private static void asAhead() {
        takenBack("made", () -> Runs.ruled("paces 9;"), heap -> heap.make(0, 3));
        takenBack("loaded", Runs::moving, heap -> heap.load(0, 4, 0));
        takenBack("stored", Runs::shared, heap -> heap.store(4, 2, 4));
        takenBack("dropped", Runs::shared, heap -> heap.drop(4));
        takenBack("copied", Runs::shared, heap -> heap.copy(0, 4));
        takenBack("begun", Runs::moving, heap -> heap.begin(1, 4, 0));
        takenBack("finished", EdgesOfHeapTest::begunBoth, heap -> heap.finish(1, 0));
        takenBack("marking begun", EdgesOfHeapTest::cycled, ColouredHeap::start);
        takenBack("a mark", EdgesOfHeapTest::started, heap -> heap.day(1));
        takenBack("chosen", EdgesOfHeapTest::marked, ColouredHeap::choose);
        takenBack("a move", Runs::moving, heap -> heap.day(1));
        takenBack("the end", EdgesOfHeapTest::movedAll, heap -> heap.day(1));
        takenBack("years", Runs::shared, heap -> heap.years(77, 40));
        takenBack("a line more than the book has", EdgesOfHeapTest::linesToTheLast, heap -> heap.make(1, 0));
        ColouredHeap heap = begunBoth();
        heap.finish(1, 0);
        heap.undo();
        edges.due("a thread that has begun again", 147, heap.finish(1, 0));
        ColouredHeap colours = cycled();
        colours.start();
        colours.undo();
        colours.start();
        edges.due("the latest mark, too", 1, colours.is(3));
    }

    /** The book is full by draws, which are few steps. */
    private static ColouredHeap linesToTheLast() {
        ColouredHeap heap = new ColouredHeap();
        for (int seed = 0; seed < 4; seed++) {
            heap.years(seed, 40);
        }
        edges.due("a full book", 25, heap.book(-1, 0));
        return heap;
    }

    private static ColouredHeap movedAll() {
        ColouredHeap heap = Runs.moving();
        heap.day(1);
        return heap;
    }

    private static void howManyYet() {
        ColouredHeap heap = new ColouredHeap();
        heap.make(0, 0);
        edges.due("the only one", 0, heap.undo());
        heap.make(0, 0);
        heap.make(0, 0);
        edges.due("one of two", 1, heap.undo());
        edges.due("the last", 0, heap.undo());
    }

    private static void noStep() {
        edges.refused("a new one", -1, ColouredHeap::new, ColouredHeap::undo);
        edges.refused("all are taken back", -1, () -> {
            ColouredHeap heap = new ColouredHeap();
            heap.day(60);
            for (int i = 0; i < 30; i++) {
                heap.undo();
            }
            return heap;
        }, ColouredHeap::undo);
        edges.refused("what isn't a step", -1, () -> {
            ColouredHeap heap = Runs.ruled("paces 1;");
            heap.said(1, 1);
            heap.image();
            heap.back();
            return heap;
        }, ColouredHeap::undo);
    }
}
