import java.util.function.Supplier;
import java.util.function.ToIntFunction;

/** Boundary cases of parts III to V and of the promises that tell how all is, or go on from there. */
public final class EdgesOfAnswersTest {
    private static Edges edges;

    public static void main(String[] args) throws Exception {
        edges = new Edges("EdgesOfAnswersTest");
        howAllIs();
        theBook();
        whatComes();
        whatIsReached();
        howFar();
        packs();
        races();
        pagesAndShapes();
        years();
        images();
        edges.close();
    }

    // ---- beginnings

    private static ColouredHeap begunBoth() {
        ColouredHeap heap = Runs.moving();
        heap.begin(0, 4, 0);
        heap.begin(1, 4, 1);
        return heap;
    }

    /** All pages are full, and nothing is reached. */
    private static ColouredHeap allDead() {
        ColouredHeap heap = Runs.filled();
        heap.drop(5);
        return heap;
    }

    private static void refusedAll(String call, int want, int[] others, Supplier<ColouredHeap> like, Asked asked) {
        for (int other : others) {
            edges.refused(call + " " + other, want, like, heap -> asked.of(heap, other));
        }
    }

    private interface Asked {
        int of(ColouredHeap heap, int other);
    }

    private static int bit(boolean answer) {
        return answer ? 1 : 0;
    }

    // ---- how all is

    private static void howAllIs() {
        edges.of("Promise 1", "Eight free pages; THE IMAGE is this.", EdgesOfAnswersTest::newObject);
        edges.of("Promise 20", "The POINTER of a ROOT (NONE: none).", EdgesOfAnswersTest::rootOfNone);
        edges.of("Promise 20", "-2 for others.", () -> refusedAll("root", -2, Edges.others(0, 5), Runs::shared,
            ColouredHeap::root));
        edges.of("Promise 21", "The word there: -2 nothing, 1000 and more an OBJECT with so many fields more, else a"
            + " POINTER (NONE: none).", EdgesOfAnswersTest::wordsOfAllKinds);
        edges.of("Promise 21", "-3 for others.", () -> refusedAll("at", -3, Edges.others(0, 63), Runs::filled,
            ColouredHeap::at));
        edges.of("Promise 22", "NONE: none, and for others.", EdgesOfAnswersTest::noForward);
        edges.of("Promise 23", "Of a PAGE: 0 how it is (0 FREE, 1 IN USE, 2 CHOSEN), 1 words USED, 2 words LIVE, 3 picks"
            + " now (1, 0).", EdgesOfAnswersTest::pagesOfAllKinds);
        edges.of("Promise 23", "NONE for others.", EdgesOfAnswersTest::noPage);
        edges.of("Promise 24", "5 the PAGE OBJECTS are MADE on (NONE: none), 6 the one they are moved to (NONE: none).",
            EdgesOfAnswersTest::pagesForThat);
        edges.of("Promise 24", "-2 for others.", () -> refusedAll("is", -2, Edges.others(0, 6), Runs::moving,
            ColouredHeap::is));
        edges.of("Promise 25", "Whether an OBJECT is there that is MARKED.", EdgesOfAnswersTest::markedHeads);
        edges.of("Promise 25", "False for others.", () -> refusedAll("marked", 0, Edges.others(0, 63), Runs::moving,
            (heap, other) -> bit(heap.marked(other))));
        edges.of("Promise 50", "0 TEXTS, 1 THE TEXT (NONE), 2 STEPS that can be taken back, 3 THREADS that have BEGUN"
            + " (bits), 4 SAID, 5 bytes of the tape.", EdgesOfAnswersTest::aboutAtItsEnds);
        edges.of("Promise 50", "-2 for others.", () -> refusedAll("about", -2, Edges.others(0, 5), Runs::moving,
            ColouredHeap::about));
    }

    private static void newObject() {
        ColouredHeap first = new ColouredHeap();
        edges.due("all pages are free", 0xff, freeNow(first));
        int[] is = {0, 463, 0, 2, 0, -1, -1};
        for (int what = 0; what < 7; what++) {
            edges.due("is " + what, is[what], first.is(what));
        }
        ColouredHeap back = new ColouredHeap();
        edges.due("back at once", 0, back.back());
        edges.dueAlike("behind it", Runs.all(new ColouredHeap()), Runs.all(back));
        ColouredHeap far = Runs.full();
        Runs.tell(far, "picks 1;");
        far.by(0);
        far.said(0, 0);
        far.begin(0, 4, 2);
        edges.due("back from far away", 0, far.back());
        edges.due("no texts", 0, far.about(0));
        edges.due("no step", -1, far.undo());
        edges.due("all pages are free again", 0xff, freeNow(far));
        edges.due("the first address again", 0, far.make(0, 3));
    }

    private static int freeNow(ColouredHeap heap) {
        int bits = 0;
        for (int page = 0; page < 8; page++) {
            bits |= heap.page(page, 0) == 0 && heap.page(page, 1) == 0 ? 1 << page : 0;
        }
        return bits;
    }

    private static void rootOfNone() {
        ColouredHeap heap = new ColouredHeap();
        edges.due("at first", -1, heap.root(0));
        edges.due("the last", -1, heap.root(5));
        heap.make(0, 0);
        heap.start();
        edges.due("the pointer 0 is not none", 0, heap.root(0));
        heap.drop(0);
        edges.due("dropped", -1, heap.root(0));
    }

    private static void wordsOfAllKinds() {
        ColouredHeap heap = new ColouredHeap();
        edges.due("nothing", -2, heap.at(0));
        edges.due("nothing at the last", -2, heap.at(63));
        for (int fields = 0; fields <= 3; fields++) {
            edges.due("a head of " + fields, 1000 + fields, heap.at(heap.make(fields, fields)));
        }
        edges.due("none", -1, heap.at(2));
        heap.store(1, 0, 0);
        edges.due("a pointer", 128, heap.at(2));
        heap.start();
        heap.day(4);
        edges.due("the least pointer", 0, heap.at(2));
        ColouredHeap full = Runs.filled();
        edges.due("the last field of all", -1, full.at(63));
        full.store(5, 2, 5);
        edges.due("a pointer at the last", 188, full.at(63));
    }

    private static void noForward() {
        edges.due("none at first", -1, new ColouredHeap().forward(0));
        refusedAll("forward", -1, Edges.others(0, 63), Runs::moving, ColouredHeap::forward);
        ColouredHeap heap = Runs.moving();
        heap.day(1);
        edges.due("of what was moved", 16, heap.forward(1));
        edges.due("of a word of it", -1, heap.forward(2));
        edges.due("of the new one", -1, heap.forward(16));
    }

    private static void pagesOfAllKinds() {
        ColouredHeap heap = Runs.moving();
        int[][] want = {{2, 7, 3, 1}, {1, 4, 4, 0}, {0, 0, 0, 1}};
        for (int page = 0; page < 3; page++) {
            for (int what = 0; what < 4; what++) {
                edges.due("page " + page + ", " + what, want[page][what], heap.page(page, what));
            }
        }
        ColouredHeap full = Runs.filled();
        full.start();
        full.day(16);
        int[] most = {1, 8, 8, 0};
        for (int what = 0; what < 4; what++) {
            edges.due("the first page when full, " + what, most[what], full.page(0, what));
            edges.due("the last page when full, " + what, most[what], full.page(7, what));
        }
    }

    private static void noPage() {
        for (int what = 0; what < 4; what++) {
            int one = what;
            refusedAll("of " + what + " page", -1, Edges.others(0, 7), Runs::moving, (heap, page) -> heap.page(page, one));
        }
        refusedAll("what", -1, Edges.others(0, 3), Runs::moving, (heap, what) -> heap.page(0, what));
    }

    private static void pagesForThat() {
        ColouredHeap heap = new ColouredHeap();
        edges.due("made on none", -1, heap.is(5));
        edges.due("moved to none", -1, heap.is(6));
        heap.make(0, 0);
        edges.due("made on page 0", 0, heap.is(5));
        heap.undo();
        edges.due("taken back", -1, heap.is(5));
        edges.due("made on the last", 7, Runs.filled().is(5));
    }

    private static void markedHeads() {
        ColouredHeap heap = Runs.moving();
        edges.due("an object", true, heap.marked(1));
        edges.due("its fields", false, heap.marked(2) || heap.marked(3));
        edges.due("a dead one", false, heap.marked(0));
        edges.due("nothing", false, heap.marked(63));
        ColouredHeap ends = new ColouredHeap();
        for (int i = 0; i < 64; i++) {
            ends.make(i == 0 ? 1 : 0, 0);
        }
        ends.start();
        edges.due("at 0", true, ends.marked(0));
        edges.due("at 63", true, ends.marked(63));
        edges.due("at 62", false, ends.marked(62));
    }

    private static void aboutAtItsEnds() {
        ColouredHeap heap = new ColouredHeap();
        int[] first = {0, -1, 0, 0, 0, 0};
        for (int what = 0; what < 6; what++) {
            edges.due("at first " + what, first[what], heap.about(what));
        }
        for (int i = 0; i < 4; i++) {
            Runs.tell(heap, "");
        }
        heap.by(3);
        heap.make(0, 1);
        heap.begin(0, 0, 0);
        edges.due("thread 0 alone", 1, heap.about(3));
        heap.begin(1, 0, 0);
        heap.day(60);
        for (int i = 0; i < 9; i++) {
            heap.said(0, 0);
        }
        for (int i = 0; i < 16; i++) {
            heap.feed(0, 0, 0, 0, 0);
        }
        int[] most = {4, 3, 30, 3, 8, 300};
        for (int what = 0; what < 6; what++) {
            edges.due("at most " + what, most[what], heap.about(what));
        }
        heap.finish(0, 0);
        edges.due("thread 1 alone", 2, heap.about(3));
    }

    // ---- the book

    private static void theBook() {
        edges.of("Promise 26", "BOOK: how many (i NONE)", EdgesOfAnswersTest::linesInTheBook);
        edges.of("Promise 26", "the i-th, from the eldest on: 0 CLOCK", EdgesOfAnswersTest::clocksOfLines);
        edges.of("Promise 26", "-2 if there is none such, and for others.", EdgesOfAnswersTest::noLine);
        edges.of("Terms", "BY THE BOOK: how many lines there are of a kind.", EdgesOfAnswersTest::linesOfAKind);
        edges.of("Promise 47", "-2 for others (0 .. 5).", () -> refusedAll("ledger", -2, Edges.others(0, 5),
            Runs::moving, ColouredHeap::ledger));
    }

    private static ColouredHeap fullBook() {
        ColouredHeap heap = new ColouredHeap();
        for (int i = 0; i < 40; i++) {
            heap.make(0, 0);
        }
        return heap;
    }

    private static void linesInTheBook() {
        edges.due("none", 0, new ColouredHeap().book(-1, 0));
        edges.due("nine", 9, Runs.moving().book(-1, 2));
        edges.due("25 of 40", 25, fullBook().book(-1, 1));
        edges.due("whatever is asked of them", 25, fullBook().book(-1, Integer.MAX_VALUE));
    }

    private static void clocksOfLines() {
        ColouredHeap first = new ColouredHeap();
        first.day(1);
        edges.due("the first tick's", 0, first.book(0, 0));
        ColouredHeap last = Runs.atClock(9998);
        last.make(0, 0);
        edges.due("made ahead of the last tick", 9998, last.book(24, 0));
        last.day(1);
        last.start();
        edges.due("by hand behind it", 9999, last.book(24, 0));
        edges.due("the eldest of 25", true, last.book(0, 0) < 9998);
    }

    private static void noLine() {
        edges.refused("the first of none", -2, ColouredHeap::new, heap -> heap.book(0, 0));
        for (int i : new int[] {-2, 9, Integer.MIN_VALUE, Integer.MAX_VALUE}) {
            edges.refused("line " + i + " of nine", -2, Runs::moving, heap -> heap.book(i, 0));
        }
        for (int i : new int[] {-2, 25, 26, 50, Integer.MIN_VALUE, Integer.MAX_VALUE}) {
            edges.refused("line " + i + " of 25", -2, EdgesOfAnswersTest::fullBook, heap -> heap.book(i, 0));
        }
        refusedAll("what", -2, Edges.others(0, 2), Runs::moving, (heap, what) -> heap.book(0, what));
        refusedAll("what of the last", -2, Edges.others(0, 2), EdgesOfAnswersTest::fullBook,
            (heap, what) -> heap.book(24, what));
        edges.due("the eldest", 15, fullBook().book(0, 2));
        edges.due("the latest", 39, fullBook().book(24, 2));
    }

    private static void linesOfAKind() {
        for (int kind = 0; kind < 6; kind++) {
            edges.due("none of " + kind, 0, new ColouredHeap().ledger(kind));
        }
        edges.due("all 25", 25, fullBook().ledger(0));
        ColouredHeap heap = new ColouredHeap();
        for (int i = 0; i < 24; i++) {
            heap.make(0, 0);
        }
        heap.start();
        edges.due("24 made", 24, heap.ledger(0));
        edges.due("one begun", 1, heap.ledger(1));
        for (int i = 0; i < 24; i++) {
            heap.make(0, 0);
        }
        edges.due("it is the eldest", 1, heap.ledger(1));
        heap.make(0, 0);
        edges.due("it is gone", 0, heap.ledger(1));
        edges.due("all are made", 25, heap.ledger(0));
    }

    // ---- what comes

    private static void whatComes() {
        edges.of("Terms", "All that follows changes nothing but what is told.", EdgesOfAnswersTest::nothingChanges);
        edges.of("Terms", "FORETOLD behind n TICKS (1 .. 60; those that can pass), nothing else being done.",
            EdgesOfAnswersTest::foretoldWithin);
        edges.of("Promise 27", "NONE for others.", EdgesOfAnswersTest::notForetold);
        edges.of("Promise 27", "0 the PHASE, 1 PAGES that are FREE (bits).", EdgesOfAnswersTest::foretoldBits);
        edges.of("Terms", "TILL IDLE: behind how many TICKS PHASE is idle (0: it is; beyond 9999, too).",
            EdgesOfAnswersTest::tillIdle);
        edges.of("Promise 38", "NONE: not by 200.", EdgesOfAnswersTest::neverIdle);
    }

    private static void nothing(String call, ToIntFunction<ColouredHeap> asked) {
        ColouredHeap heap = begunBoth();
        asked.applyAsInt(heap);
        edges.dueAlike("behind " + call, Runs.all(begunBoth()), Runs.all(heap));
        ColouredHeap undone = begunBoth();
        asked.applyAsInt(undone);
        undone.undo();
        ColouredHeap before = begunBoth();
        before.undo();
        edges.dueAlike("behind " + call + " and undo", Runs.all(before), Runs.all(undone));
    }

    private static void nothingChanges() {
        nothing("foretold", heap -> heap.foretold(60, 0));
        nothing("current", heap -> heap.current(1));
        nothing("reached", heap -> bit(heap.reached(1)));
        nothing("reach", heap -> heap.reach(true));
        nothing("dead", ColouredHeap::dead);
        nothing("stale", ColouredHeap::stale);
        nothing("safe", heap -> bit(heap.safe()));
        nothing("far", heap -> heap.far(1));
        nothing("retained", heap -> heap.retained(8));
        nothing("pack", ColouredHeap::pack);
        nothing("till", ColouredHeap::till);
        nothing("alike", ColouredHeap::alike);
        nothing("poorest", ColouredHeap::poorest);
        nothing("gaps", heap -> heap.gaps(0));
        nothing("shape", heap -> heap.shape(8, 0));
        nothing("same", heap -> bit(heap.same(8, 8)));
        nothing("chain", heap -> heap.chain(8));
        nothing("whose", ColouredHeap::whose);
        nothing("ledger", heap -> heap.ledger(0));
    }

    private static void foretoldWithin() {
        ColouredHeap heap = new ColouredHeap();
        for (int n = 1; n <= 60; n++) {
            edges.due("behind " + n, n % 3, heap.foretold(n, 0));
        }
        ColouredHeap late = Runs.atClock(9998);
        edges.due("marking is over", 2, late.is(2));
        edges.due("one of one", 0, late.foretold(1, 0));
        edges.due("one of two", 0, late.foretold(2, 0));
        edges.due("one of sixty", 0, late.foretold(60, 0));
        ColouredHeap last = Runs.atClock(9999);
        last.start();
        edges.due("none can pass", 1, last.foretold(60, 0));
        ColouredHeap begun = begunBoth();
        edges.due("nobody finishes", 2, begun.foretold(60, 0));
    }

    private static void notForetold() {
        refusedAll("ticks", -1, Edges.others(1, 60), Runs::shared, (heap, n) -> heap.foretold(n, 0));
        refusedAll("what", -1, Edges.others(0, 1), Runs::shared, (heap, what) -> heap.foretold(1, what));
        edges.refused("at 9999, 0 ticks", -1, () -> Runs.atClock(9999), heap -> heap.foretold(0, 0));
    }

    private static void foretoldBits() {
        edges.due("all", 0xff, new ColouredHeap().foretold(1, 1));
        edges.due("none", 0, Runs.filled().foretold(1, 1));
        edges.due("all but the page to make on", 0x7f, allDead().foretold(2, 1));
        edges.due("all but page 0", 0xfe, Runs.row().foretold(60, 1));
    }

    private static void tillIdle() {
        edges.due("it is", 0, new ColouredHeap().till());
        edges.due("idle again", 0, Runs.atClock(3).till());
        edges.due("one", 1, Runs.atClock(2).till());
        edges.due("two", 2, Runs.atClock(1).till());
        ColouredHeap late = Runs.atClock(9998);
        edges.due("to 9999", 1, late.till());
        ColouredHeap beyond = Runs.atClock(9997);
        beyond.day(1);
        beyond.day(1);
        beyond.start();
        edges.due("beyond 9999", 2, beyond.till());
        edges.due("none pass", 9999, beyond.is(0));
        ColouredHeap most = Runs.filled();
        most.start();
        edges.due("sixteen marks, chosen, the end", 18, most.till());
    }

    private static void neverIdle() {
        edges.due("no room", -1, Runs.full().till());
        edges.due("somebody has begun", -1, begunBoth().till());
        ColouredHeap marking = Runs.shared();
        marking.start();
        marking.begin(0, 4, 0);
        edges.due("marking doesn't end", -1, marking.till());
        marking.finish(0, 0);
        edges.due("two marks, chosen with the root's move, the end", 4, marking.till());
        ColouredHeap idle = Runs.shared();
        idle.begin(0, 4, 0);
        edges.due("idle all the same", 0, idle.till());
    }

    // ---- what is reached

    private static void whatIsReached() {
        edges.of("Promise 29", "NONE for others (0 .. 191).", EdgesOfAnswersTest::currentOfOthers);
        edges.of("Terms", "REACHED: OBJECTS to which ROOTS lead, their fields, .. (each by CURRENT).",
            EdgesOfAnswersTest::reachedByCurrent);
        edges.of("Promise 30", "False for others.", EdgesOfAnswersTest::notReached);
        edges.of("Promise 31", "REACHED: how many OBJECTS (words false), words (words true).",
            EdgesOfAnswersTest::noneAndAllReached);
        edges.of("Terms", "DEAD: USED words of PAGES that aren't FREE (CHOSEN ones, too) of no REACHED OBJECT.",
            EdgesOfAnswersTest::deadInChosenPages);
        edges.of("Promise 32", "DEAD: how many words.", EdgesOfAnswersTest::noneAndAllDead);
        edges.of("Terms", "STALE: POINTERS of ROOTS and of fields of REACHED OBJECTS that aren't none and not of the good"
            + " colour.", EdgesOfAnswersTest::staleAlone);
        edges.of("Promise 33", "STALE: how many POINTERS.", EdgesOfAnswersTest::noneAndAllStale);
        edges.of("Terms", "SAFE: each POINTER of ROOTS and of fields of REACHED OBJECTS that isn't none leads, by"
            + " CURRENT, to an OBJECT's head in a PAGE that isn't FREE.", EdgesOfAnswersTest::safeAtAllTimes);
        edges.of("Promise 34", "SAFE.", () -> edges.due("without pointers", true, new ColouredHeap().safe()));
    }

    private static void currentOfOthers() {
        refusedAll("current", -1, Edges.others(0, 191), Runs::moving, ColouredHeap::current);
        ColouredHeap heap = new ColouredHeap();
        edges.due("the least", 0, heap.current(0));
        edges.due("the last of the first mark", 63, heap.current(63));
        edges.due("the first of the second", 0, heap.current(64));
        edges.due("the greatest", 63, heap.current(191));
    }

    private static void reachedByCurrent() {
        ColouredHeap heap = Runs.moving();
        edges.due("the old one", true, heap.reached(1));
        heap.day(1);
        edges.due("it is left", false, heap.reached(1));
        edges.due("the new one", true, heap.reached(16));
        edges.due("two objects still", 2, heap.reach(false));
        ColouredHeap ring = new ColouredHeap();
        ring.make(0, 1);
        ring.store(0, 0, 0);
        edges.due("one that leads to itself", 1, ring.reach(false));
        ring.drop(0);
        edges.due("not by itself alone", 0, ring.reach(false));
    }

    private static void notReached() {
        refusedAll("reached", 0, Edges.others(0, 63), Runs::shared, (heap, at) -> bit(heap.reached(at)));
        ColouredHeap heap = Runs.filled();
        edges.due("the first", true, heap.reached(0));
        edges.due("the last", true, heap.reached(60));
        edges.due("a word within", false, heap.reached(63));
        edges.due("a dead one", false, Runs.shared().reached(0));
        edges.due("nothing", false, Runs.shared().reached(63));
    }

    private static void noneAndAllReached() {
        edges.due("no objects", 0, new ColouredHeap().reach(false));
        edges.due("no words", 0, new ColouredHeap().reach(true));
        edges.due("all objects", 16, Runs.filled().reach(false));
        edges.due("all words", 64, Runs.filled().reach(true));
        edges.due("all dead", 0, allDead().reach(true));
        edges.due("32 objects in a row", 32, rowOf32().reach(false));
    }

    private static ColouredHeap rowOf32() {
        ColouredHeap heap = new ColouredHeap();
        for (int i = 0; i < 32; i++) {
            heap.make(0, 1);
            heap.store(0, 0, 5);
            heap.copy(5, 0);
        }
        heap.drop(0);
        return heap;
    }

    private static void deadInChosenPages() {
        ColouredHeap heap = Runs.moving();
        edges.due("chosen", 2, heap.page(0, 0));
        edges.due("in a chosen page", 4, heap.dead());
        heap.day(1);
        edges.due("and the old one", 7, heap.dead());
        heap.day(1);
        edges.due("free pages have none", 0, heap.dead());
    }

    private static void noneAndAllDead() {
        edges.due("of nothing", 0, new ColouredHeap().dead());
        edges.due("none of a full heap", 0, Runs.filled().dead());
        edges.due("all of a full heap", 64, allDead().dead());
    }

    private static void staleAlone() {
        ColouredHeap heap = Runs.shared();
        edges.due("idle", 0, heap.stale());
        heap.start();
        edges.due("two fields, not the third, which is none", 2, heap.stale());
        heap.drop(4);
        edges.due("not of what isn't reached", 0, heap.stale());
        ColouredHeap roots = Runs.row();
        roots.start();
        edges.due("roots are good", 3, roots.stale());
        roots.day(4);
        edges.due("all are good", 0, roots.stale());
        roots.choose();
        edges.due("fields are stale again", 3, roots.stale());
    }

    private static void noneAndAllStale() {
        edges.due("of nothing", 0, new ColouredHeap().stale());
        ColouredHeap heap = Runs.filled();
        heap.start();
        edges.due("fifteen, and the last leads nowhere", 15, heap.stale());
        ColouredHeap both = new ColouredHeap();
        both.make(0, 3);
        for (int field = 0; field < 3; field++) {
            both.store(0, field, 0);
        }
        both.start();
        edges.due("each field counts", 3, both.stale());
    }

    private static void safeAtAllTimes() {
        ColouredHeap heap = Runs.shared();
        for (int i = 0; i < 12; i++) {
            edges.due("behind " + i + " ticks", true, heap.safe());
            heap.day(1);
        }
        ColouredHeap full = Runs.full();
        edges.due("no room to move", true, full.safe());
        ColouredHeap again = Runs.moving();
        again.day(2);
        again.make(0, 3);
        again.make(0, 3);
        edges.due("an old address is given out again", true, again.safe());
    }

    // ---- how far

    private static void howFar() {
        edges.of("Terms", "HOW FAR: the fewest LOADS by which an OBJECT is come to from ROOTS (0: a ROOT leads to it).",
            EdgesOfAnswersTest::fewestLoads);
        edges.of("Promise 35", "NONE: it is not REACHED, and for others.", EdgesOfAnswersTest::notFar);
        edges.of("Terms", "RETAINED: words of OBJECTS (itself, too) that were REACHED no more, were that one no OBJECT.",
            EdgesOfAnswersTest::retainedItself);
        edges.of("Promise 36", "NONE likewise.", EdgesOfAnswersTest::notRetained);
    }

    private static void fewestLoads() {
        ColouredHeap heap = rowOf32();
        edges.due("a root's", 0, heap.far(62));
        edges.due("the next", 1, heap.far(60));
        edges.due("the farthest", 31, heap.far(0));
        ColouredHeap both = Runs.row();
        both.load(5, 0, 0);
        edges.due("a root is nearer than a field", 0, both.far(2));
        edges.due("and what is behind it", 1, both.far(4));
    }

    private static void notFar() {
        refusedAll("far", -1, Edges.others(0, 63), Runs::shared, ColouredHeap::far);
        edges.due("a dead one", -1, Runs.shared().far(0));
        edges.due("a word within", -1, Runs.shared().far(2));
        edges.due("nothing", -1, Runs.shared().far(63));
        edges.due("nothing at all", -1, new ColouredHeap().far(0));
    }

    private static void retainedItself() {
        ColouredHeap heap = Runs.filled();
        edges.due("all of a full heap", 64, heap.retained(60));
        edges.due("itself alone", 4, heap.retained(0));
        ColouredHeap one = new ColouredHeap();
        one.make(0, 0);
        edges.due("one word", 1, one.retained(0));
        one.make(1, 1);
        one.store(1, 0, 0);
        edges.due("not what another root leads to", 2, one.retained(1));
        ColouredHeap ring = new ColouredHeap();
        ring.make(0, 1);
        ring.store(0, 0, 0);
        edges.due("one that leads to itself", 2, ring.retained(0));
    }

    private static void notRetained() {
        refusedAll("retained", -1, Edges.others(0, 63), Runs::shared, ColouredHeap::retained);
        edges.due("a dead one", -1, Runs.shared().retained(0));
        edges.due("a word within", -1, Runs.shared().retained(2));
        edges.due("nothing", -1, Runs.shared().retained(63));
        edges.due("nothing at all", -1, new ColouredHeap().retained(0));
    }

    // ---- packs

    private static void packs() {
        edges.of("Terms", "A PACK: the fewest PAGES of 8 words in which all REACHED OBJECTS have room, each in one.",
            EdgesOfAnswersTest::eachInOnePage);
        edges.of("Promise 37", "A PACK: PAGES.", EdgesOfAnswersTest::noneAndAllPacked);
    }

    /** Objects of so many words, one at each root. */
    private static int packed(int... words) {
        ColouredHeap heap = new ColouredHeap();
        for (int root = 0; root < words.length; root++) {
            heap.make(root, words[root] - 1);
        }
        return heap.pack();
    }

    private static void eachInOnePage() {
        edges.due("eight words in one", 1, packed(4, 4));
        edges.due("nine words in two", 2, packed(4, 4, 1));
        edges.due("seven of eight", 1, packed(4, 3));
        edges.due("3 3 2 in one", 1, packed(3, 3, 2));
        edges.due("3 3 3 in two", 2, packed(3, 3, 3));
        edges.due("3 3 3 3 4 in two: sixteen words, but not each in one", 3, packed(3, 3, 3, 3, 4));
        edges.due("4 3 3 2 2 2 in two", 2, packed(4, 3, 3, 2, 2, 2));
        edges.due("4 4 3 3 1 1 in two", 2, packed(4, 4, 3, 3, 1, 1));
        edges.due("3 3 3 3 2 2 in two", 2, packed(3, 3, 3, 3, 2, 2));
        edges.due("4 4 4 3 1 in two", 2, packed(4, 4, 4, 3, 1));
        edges.due("4 4 4 4 1 in three", 3, packed(4, 4, 4, 4, 1));
        ColouredHeap row = new ColouredHeap();
        for (int words : new int[] {4, 4, 4, 4, 4, 4, 4, 3, 3, 3, 3, 3, 3, 2}) {
            row.make(0, words - 1);
            row.store(0, 0, 5);
            row.copy(5, 0);
        }
        edges.due("48 words", 48, row.reach(true));
        edges.due("seven of 4, six of 3 and one of 2 in seven", 7, row.pack());
    }

    private static void noneAndAllPacked() {
        edges.due("none", 0, new ColouredHeap().pack());
        edges.due("one word", 1, packed(1));
        edges.due("all of a full heap", 8, Runs.filled().pack());
        edges.due("dead ones are not packed", 0, allDead().pack());
        edges.due("32 of two words", 8, rowOf32().pack());
    }

    // ---- races

    private static void races() {
        edges.of("Terms", "(as all is behind both), each by CURRENT (none: none)", EdgesOfAnswersTest::noneIsAlike);
        edges.of("Promise 39", "ALIKE: 1 by both orders, 0 not.", EdgesOfAnswersTest::byBothOrders);
        edges.of("Promise 39", "NONE: not both are BEGUN.", EdgesOfAnswersTest::notBoth);
    }

    private static void noneIsAlike() {
        ColouredHeap heap = Runs.moving();
        heap.begin(0, 4, 2);
        heap.begin(1, 4, 2);
        edges.due("none and none", 1, heap.alike());
        heap.store(4, 2, 4);
        edges.due("none was read, the word isn't any more", 0, heap.alike());
        heap.store(4, 2, 0);
        edges.due("none again", 1, heap.alike());
        ColouredHeap gone = begunBoth();
        gone.store(4, 0, 0);
        edges.due("the word is none, what was read wasn't", 0, gone.alike());
    }

    private static void byBothOrders() {
        edges.due("two words", 1, begunBoth().alike());
        ColouredHeap same = Runs.moving();
        same.begin(0, 4, 0);
        same.begin(1, 4, 0);
        edges.due("one word", 1, same.alike());
        ColouredHeap idle = Runs.shared();
        idle.begin(0, 4, 0);
        idle.begin(1, 4, 1);
        edges.due("idle", 1, idle.alike());
        for (int field = 0; field < 2; field++) {
            ColouredHeap heap = begunBoth();
            heap.store(4, field, 4);
            edges.due("field " + field + " was stored over", 0, heap.alike());
        }
        ColouredHeap like = begunBoth();
        like.load(0, 4, 0);
        like.store(4, 1, 0);
        edges.due("stored over by what leads to the same", 1, like.alike());
    }

    private static void notBoth() {
        edges.due("nobody", -1, new ColouredHeap().alike());
        ColouredHeap heap = begunBoth();
        heap.finish(0, 0);
        edges.due("thread 1 alone", -1, heap.alike());
        heap.begin(0, 4, 2);
        edges.due("both again", 1, heap.alike());
        heap.finish(1, 1);
        edges.due("thread 0 alone", -1, heap.alike());
    }

    // ---- pages and shapes

    private static void pagesAndShapes() {
        edges.of("Terms", "POOREST: the PAGE IN USE of fewest LIVE words (of like ones the lowest; none).",
            EdgesOfAnswersTest::lowestPoorest);
        edges.of("Promise 40", "NONE: none.", EdgesOfAnswersTest::noPoorest);
        edges.of("Terms", "GAPS: words of a PAGE that are USED, but of no REACHED OBJECT.", EdgesOfAnswersTest::allGaps);
        edges.of("Promise 41", "NONE for others.", () -> refusedAll("gaps", -1, Edges.others(0, 7), Runs::moving,
            ColouredHeap::gaps));
        edges.of("Terms", "SHAPE: where a field of a REACHED OBJECT leads (CURRENT).", EdgesOfAnswersTest::shapeOfMoved);
        edges.of("Promise 42", "NONE: none, and for others.", EdgesOfAnswersTest::noShape);
        edges.of("Terms", "if they have as many fields and each field of the one leads where that of the other does (or"
            + " both nowhere)", EdgesOfAnswersTest::sameNowhere);
        edges.of("Promise 43", "False for others.", EdgesOfAnswersTest::notSame);
        edges.of("Terms", "A CHAIN: from a REACHED OBJECT on by first fields (0) as long as they lead to one that was not"
            + " in it: how many.", EdgesOfAnswersTest::chainsAndRings);
        edges.of("Promise 44", "NONE for others.", EdgesOfAnswersTest::noChain);
    }

    private static void lowestPoorest() {
        edges.due("all alike", 0, Runs.filled().poorest());
        ColouredHeap heap = Runs.filled();
        heap.start();
        edges.due("page 7 has life", 0, heap.poorest());
        heap.day(15);
        edges.due("all have 8", 0, heap.poorest());
        ColouredHeap last = new ColouredHeap();
        last.make(0, 3);
        last.make(0, 3);
        last.make(1, 0);
        last.start();
        edges.due("4 and 1", 1, last.poorest());
        ColouredHeap like = new ColouredHeap();
        like.make(5, 3);
        like.make(0, 3);
        like.make(1, 3);
        like.drop(5);
        like.start();
        edges.due("4 and 4", 0, like.poorest());
        ColouredHeap highest = Runs.filled();
        highest.load(5, 5, 0);
        highest.load(5, 5, 0);
        highest.start();
        highest.day(14);
        edges.due("all pages but the last have 8", 7, highest.poorest());
    }

    private static void noPoorest() {
        edges.due("no page in use", -1, new ColouredHeap().poorest());
        ColouredHeap heap = new ColouredHeap();
        heap.make(0, 0);
        edges.due("one", 0, heap.poorest());
        heap.undo();
        edges.due("none again", -1, heap.poorest());
        edges.due("a chosen one is not in use", 1, Runs.moving().poorest());
    }

    private static void allGaps() {
        edges.due("a free page", 0, new ColouredHeap().gaps(7));
        edges.due("a full page without", 0, Runs.filled().gaps(0));
        edges.due("nothing but gaps", 8, allDead().gaps(0));
        edges.due("the last page", 8, allDead().gaps(7));
        edges.due("what isn't used is none", 4, Runs.shared().gaps(0));
        ColouredHeap late = begunBoth();
        edges.due("copies that are not told", 6, late.gaps(2));
    }

    private static void shapeOfMoved() {
        ColouredHeap heap = Runs.moving();
        edges.due("not moved yet", 1, heap.shape(8, 0));
        heap.load(0, 4, 0);
        edges.due("the mended field", 16, heap.shape(8, 0));
        edges.due("the stale one leads there, too", 16, heap.shape(8, 1));
        edges.due("the chain", 2, heap.chain(8));
        edges.due("the old one is left", -1, heap.shape(1, 0));
        heap.make(1, 3);
        heap.store(1, 0, 0);
        heap.store(1, 1, 0);
        edges.due("a stale field is as a mended one", true, heap.same(8, 12));
    }

    private static void noShape() {
        refusedAll("address", -1, Edges.others(0, 63), Runs::shared, (heap, at) -> heap.shape(at, 0));
        refusedAll("field", -1, Edges.others(0, 2), Runs::shared, (heap, field) -> heap.shape(8, field));
        ColouredHeap heap = Runs.shared();
        edges.due("none", -1, heap.shape(8, 2));
        edges.due("a field it hasn't", -1, heap.shape(1, 2));
        heap.make(0, 0);
        heap.make(1, 2);
        heap.store(1, 0, 4);
        heap.store(1, 1, 4);
        for (int field = 0; field < 3; field++) {
            edges.due("field " + field + " of one without", -1, heap.shape(12, field));
        }
        edges.due("a dead one", -1, heap.shape(4, 0));
        edges.due("a word within", -1, heap.shape(9, 0));
        edges.due("one", 1, heap.shape(8, 1));
        ColouredHeap first = new ColouredHeap();
        first.make(0, 1);
        first.store(0, 0, 0);
        edges.due("the address 0 is one", 0, first.shape(0, 0));
    }

    private static void sameNowhere() {
        ColouredHeap heap = new ColouredHeap();
        for (int root = 0; root < 4; root++) {
            heap.make(root, root / 2 * 3);
        }
        edges.due("two without fields", true, heap.same(0, 1));
        heap.store(2, 0, 0);
        edges.due("still, though a field is near", true, heap.same(0, 1));
        edges.due("the first of one leads to 0", false, heap.same(2, 8));
        heap.store(2, 0, 5);
        edges.due("0 and 3 fields", false, heap.same(0, 2));
        edges.due("three fields, all nowhere", true, heap.same(2, 8));
        heap.store(2, 2, 0);
        edges.due("the last of one leads to 0", false, heap.same(2, 8));
        edges.due("the other way around", false, heap.same(8, 2));
        heap.store(3, 2, 0);
        edges.due("that of the other, too", true, heap.same(2, 8));
        heap.store(3, 2, 1);
        edges.due("to another one", false, heap.same(2, 8));
    }

    private static void notSame() {
        refusedAll("a", 0, Edges.others(0, 63), Runs::shared, (heap, at) -> bit(heap.same(at, 8)));
        refusedAll("b", 0, Edges.others(0, 63), Runs::shared, (heap, at) -> bit(heap.same(8, at)));
        ColouredHeap heap = Runs.shared();
        edges.due("dead ones without fields", false, heap.same(0, 6));
        edges.due("a dead one and itself", false, heap.same(0, 0));
        edges.due("words within", false, heap.same(9, 9));
        edges.due("nothing", false, heap.same(63, 63));
        edges.due("a reached one and itself", true, heap.same(8, 8));
    }

    private static void chainsAndRings() {
        edges.due("the longest", 32, rowOf32().chain(62));
        edges.due("its last", 1, rowOf32().chain(0));
        ColouredHeap ring = new ColouredHeap();
        ring.make(0, 1);
        ring.store(0, 0, 0);
        edges.due("to itself", 1, ring.chain(0));
        ring.make(1, 1);
        ring.store(1, 0, 0);
        edges.due("into a ring", 2, ring.chain(2));
        ring.store(0, 0, 1);
        edges.due("a ring of two", 2, ring.chain(0));
        edges.due("a ring of two from the other", 2, ring.chain(2));
        ColouredHeap none = new ColouredHeap();
        none.make(0, 0);
        edges.due("without fields", 1, none.chain(0));
        ColouredHeap second = new ColouredHeap();
        second.make(0, 2);
        second.make(1, 0);
        second.store(0, 1, 1);
        edges.due("by the first field alone", 1, second.chain(0));
    }

    private static void noChain() {
        refusedAll("chain", -1, Edges.others(0, 63), Runs::shared, ColouredHeap::chain);
        ColouredHeap heap = Runs.shared();
        edges.due("a dead one", -1, heap.chain(4));
        edges.due("a word within", -1, heap.chain(9));
        edges.due("nothing", -1, heap.chain(63));
        edges.due("nothing at all", -1, new ColouredHeap().chain(0));
    }

    // ---- years

    private static void years() {
        edges.of("Promise 18", "NONE for others.", EdgesOfAnswersTest::noYears);
        edges.of("Terms", "X is SEED (0 .. 9999) * 2 + 463; n times (1 .. 40)", EdgesOfAnswersTest::seeds);
        edges.of("Terms", "x is X, X is (X * 733 + 599) mod 31063", EdgesOfAnswersTest::draws);
        edges.of("Terms", "x mod 6: 0 an OBJECT of x / 6 mod 4 fields is MADE at ROOT x mod 5",
            () -> drawnAsByHand(0));
        edges.of("Terms", "1 field x / 6 mod 3 of ROOT x mod 4 is LOADED into ROOT 4 and x mod 2",
            () -> drawnAsByHand(1));
        edges.of("Terms", "2 ROOT x / 6 mod 6 is STORED into field x mod 3 of ROOT x mod 4", () -> drawnAsByHand(2));
        edges.of("Terms", "3 ROOT x / 6 mod 6 is DROPPED, if x mod 4 is 1", () -> drawnAsByHand(3));
        edges.of("Terms", "(each if it can be; else nothing)", EdgesOfAnswersTest::drawsThatCannot);
        edges.of("Terms", "(without paces)", EdgesOfAnswersTest::drawnWithoutPaces);
        edges.of("Terms", "4, 5 a TICK (if it can pass).", EdgesOfAnswersTest::drawnTicks);
        edges.of("Terms", "It is one STEP: CLOCK.", EdgesOfAnswersTest::oneStep);
    }

    private static void noYears() {
        refusedAll("seed", -1, Edges.others(0, 9999), Runs::shared, (heap, seed) -> heap.years(seed, 1));
        refusedAll("draws", -1, Edges.others(1, 40), Runs::shared, (heap, n) -> heap.years(0, n));
    }

    private static int next(int x) {
        return (int) ((x * 733L + 599) % 31063);
    }

    private static int xAfter(int seed, int draws) {
        int x = seed * 2 + 463;
        for (int i = 0; i < draws; i++) {
            x = next(x);
        }
        return x;
    }

    private static void seeds() {
        for (int seed : new int[] {0, 1, 9998, 9999}) {
            for (int n : new int[] {1, 2, 39, 40}) {
                ColouredHeap heap = new ColouredHeap();
                edges.due("clock of " + seed + ", " + n, heap.years(seed, n), heap.is(0));
                edges.due("X of " + seed + ", " + n, xAfter(seed, n), heap.is(1));
            }
        }
        ColouredHeap again = new ColouredHeap();
        again.years(5, 40);
        again.years(5, 1);
        edges.due("X is set anew", xAfter(5, 1), again.is(1));
    }

    private static void draws() {
        ColouredHeap heap = new ColouredHeap();
        heap.years(0, 1);
        edges.due("339978 mod 31063", 29348, heap.is(1));
        heap.years(9999, 1);
        edges.due("14998512 mod 31063", 14998512 % 31063, heap.is(1));
        for (int seed = 0; seed < 200; seed++) {
            heap.back();
            heap.years(seed * 50, 40);
            edges.due("X of " + seed * 50, xAfter(seed * 50, 40), heap.is(1));
        }
    }

    /** What the draw of x does, by the calls for it. */
    private static void byHand(ColouredHeap heap, int x) {
        int part = x / 6;
        switch (x % 6) {
            case 0 -> heap.make(x % 5, part % 4);
            case 1 -> heap.load(4 + x % 2, x % 4, part % 3);
            case 2 -> heap.store(x % 4, x % 3, part % 6);
            case 3 -> {
                if (x % 4 == 1) {
                    heap.drop(part % 6);
                }
            }
            default -> heap.day(1);
        }
    }

    /** Each root has an object of three fields, which lead to its neighbours. */
    private static ColouredHeap sixWithFields() {
        ColouredHeap heap = new ColouredHeap();
        for (int root = 0; root < 6; root++) {
            heap.make(root, 3);
        }
        for (int root = 0; root < 6; root++) {
            for (int field = 0; field < 3; field++) {
                heap.store(root, field, (root + field + 1) % 6);
            }
        }
        return heap;
    }

    /** Runs of draws of which the last is of that kind. */
    private static void drawnAsByHand(int kind) {
        for (int seed = 0; seed < 10000; seed += 23) {
            int draws = 1 + seed % 40;
            if (xAfter(seed, draws - 1) % 6 != kind) {
                continue;
            }
            ColouredHeap drawn = sixWithFields();
            ColouredHeap called = sixWithFields();
            drawn.years(seed, draws);
            for (int i = 0; i < draws; i++) {
                byHand(called, xAfter(seed, i));
            }
            String what = draws + " draws of " + seed;
            for (int address = 0; address < 64; address++) {
                edges.due(what + ", word " + address, called.at(address), drawn.at(address));
            }
            for (int root = 0; root < 6; root++) {
                edges.due(what + ", root " + root, called.root(root), drawn.root(root));
            }
            edges.due(what + ", clock", called.is(0), drawn.is(0));
            edges.due(what + ", phase", called.is(2), drawn.is(2));
        }
    }

    /** A seed whose first draw is of that kind. */
    private static int seedOf(int kind) {
        for (int seed = 0; seed < 10000; seed++) {
            int x = seed * 2 + 463;
            if (x % 6 == kind && (kind != 3 || x % 4 == 1)) {
                return seed;
            }
        }
        return -1;
    }

    /** A seed whose first draw is a drop that isn't one, and whose second draw is of that kind. */
    private static int secondOf(int kind) {
        for (int seed = 0; seed < 10000; seed++) {
            int x = seed * 2 + 463;
            if (x % 6 == 3 && x % 4 == 3 && next(x) % 6 == kind) {
                return seed;
            }
        }
        return -1;
    }

    /** Nothing but X and the steps is another one behind these draws. */
    private static void changesNothing(String what, Supplier<ColouredHeap> like, int seed, int n) {
        ColouredHeap heap = like.get();
        ColouredHeap before = like.get();
        edges.due(what + ", clock", before.is(0), heap.years(seed, n));
        edges.due(what + ", X", xAfter(seed, n), heap.is(1));
        for (int address = 0; address < 64; address++) {
            edges.due(what + ", word " + address, before.at(address), heap.at(address));
        }
        for (int root = 0; root < 6; root++) {
            edges.due(what + ", root " + root, before.root(root), heap.root(root));
        }
        edges.due(what + ", lines", before.book(-1, 0), heap.book(-1, 0));
        edges.due(what + ", a step", Math.min(30, before.about(2) + 1), heap.about(2));
    }

    private static void drawsThatCannot() {
        changesNothing("no room to make", Runs::filled, secondOf(0), 2);
        changesNothing("a load from none", ColouredHeap::new, seedOf(1), 1);
        changesNothing("a store into none", ColouredHeap::new, secondOf(2), 2);
        changesNothing("a drop of none", ColouredHeap::new, seedOf(3), 1);
        changesNothing("no drop, as x mod 4 is 3", EdgesOfAnswersTest::atAllRoots, secondOf(3), 1);
        changesNothing("a load of a field that it hasn't", EdgesOfAnswersTest::atAllRoots, seedOf(1), 1);
        changesNothing("a store into a field that it hasn't", EdgesOfAnswersTest::atAllRoots, secondOf(2), 2);
    }

    /** Six objects without fields. */
    private static ColouredHeap atAllRoots() {
        ColouredHeap heap = new ColouredHeap();
        for (int root = 0; root < 6; root++) {
            heap.make(root, 0);
        }
        return heap;
    }

    private static void drawnWithoutPaces() {
        ColouredHeap heap = Runs.ruled("paces 9;");
        edges.due("clock", 0, heap.years(secondOf(0), 2));
        edges.due("made", 1, heap.ledger(0));
    }

    private static void drawnTicks() {
        edges.due("kind 4", 1, new ColouredHeap().years(secondOf(4), 2));
        edges.due("kind 5", 1, new ColouredHeap().years(seedOf(5), 1));
        ColouredHeap late = Runs.atClock(9998);
        edges.due("the last", 9999, late.years(seedOf(5), 1));
        edges.due("idle", 0, late.is(2));
        edges.due("none can pass", 9999, late.years(seedOf(5), 1));
        edges.due("nothing is done", 0, late.is(2));
        edges.due("nor by kind 4", 9999, late.years(secondOf(4), 2));
        edges.due("idle yet", 0, late.is(2));
    }

    private static void oneStep() {
        ColouredHeap heap = new ColouredHeap();
        edges.due("clock", heap.years(9, 40), heap.is(0));
        edges.due("ticks among 40", true, heap.is(0) > 1);
        edges.due("one step", 1, heap.about(2));
        edges.due("undo", 0, heap.undo());
        edges.dueAlike("taken back", Runs.all(new ColouredHeap()), Runs.all(heap));
    }

    // ---- images

    private static void images() {
        edges.of("Promise 48", "THE IMAGE is as all is now: CLOCK.", EdgesOfAnswersTest::latestImage);
        edges.of("Promise 49", "BACK to THE IMAGE (it stays): CLOCK.", EdgesOfAnswersTest::backTwice);
        edges.of("Terms", "AN IMAGE: all as it is, but the tape and the latest FAULT.", EdgesOfAnswersTest::butTheTape);
        edges.of("Terms", "BACK: all is so again.", EdgesOfAnswersTest::allIsSoAgain);
    }

    private static void latestImage() {
        ColouredHeap heap = Runs.shared();
        edges.due("at clock 0", 0, heap.image());
        heap.day(9);
        edges.due("at clock 9", 9, heap.image());
        heap.day(1);
        edges.due("the latest one", 9, heap.back());
        edges.due("at the last clock", 9999, Runs.atClock(9999).image());
    }

    private static void backTwice() {
        ColouredHeap heap = begunBoth();
        heap.image();
        for (int i = 0; i < 3; i++) {
            heap.finish(0, 0);
            heap.make(1, 1);
            heap.day(2);
            edges.due("back", 2, heap.back());
        }
        edges.dueAlike("it stays", Runs.all(begunBoth()), Runs.all(heap));
    }

    private static void butTheTape() {
        ColouredHeap heap = new ColouredHeap();
        Runs.tape(heap, "drop 6;");
        heap.image();
        heap.text();
        edges.due("the tape is empty", 0, heap.about(5));
        heap.back();
        edges.due("it stays empty", 0, heap.about(5));
        edges.due("the fault stays", 2, heap.fault(0));
        edges.due("its place, too", 5, heap.fault(1));
        Runs.tape(heap, "day 1;");
        heap.back();
        edges.due("the tape stays", 6, heap.about(5));
        edges.due("it is read then", 0, heap.text());
        heap.back();
        edges.due("the latest text had none", 0, heap.fault(0));
    }

    private static void allIsSoAgain() {
        ColouredHeap heap = full();
        heap.image();
        heap.undo();
        heap.said(-1, 0);
        heap.by(0);
        heap.finish(1, 3);
        heap.day(60);
        heap.years(1234, 40);
        heap.back();
        edges.dueAlike("all", Runs.all(full()), Runs.all(heap));
        ColouredHeap steps = full();
        steps.image();
        steps.day(60);
        steps.back();
        ColouredHeap like = full();
        for (int i = 0; i < 30; i++) {
            edges.due("undo " + i, like.undo(), steps.undo());
        }
        edges.due("no more", -1, steps.undo());
        edges.dueAlike("all is taken back", Runs.all(like), Runs.all(steps));
        ColouredHeap said = new ColouredHeap();
        Runs.tell(said, "picks 3-page;");
        said.said(0, 1);
        said.said(7, 0);
        said.image();
        for (int first = 0; first < 8; first += 7) {
            said.said(-1, 0);
            said.said(first, first / 7);
            said.said(7 - first, 1 - first / 7);
            edges.due("said otherwise", 0, said.whose());
            said.back();
            edges.due("said as it was", 1, said.whose());
        }
        textsAgain();
    }

    private static void textsAgain() {
        ColouredHeap texts = new ColouredHeap();
        Runs.tell(texts, "paces 1;");
        texts.image();
        for (int i = 2; i <= 4; i++) {
            Runs.tell(texts, "paces " + i + ";");
        }
        edges.due("four texts", 4, texts.about(0));
        texts.back();
        edges.due("one text again", 1, texts.about(0));
        edges.due("another second", 1, Runs.tell(texts, "paces 7;"));
        texts.by(1);
        edges.due("its law", 7, texts.paces(0));
        texts.by(0);
        edges.due("the first is what it was", 1, texts.paces(0));
    }

    /** Texts, what was said, threads and steps are as many as there can be. */
    private static ColouredHeap full() {
        ColouredHeap heap = Runs.moving();
        for (int i = 0; i < 4; i++) {
            Runs.tell(heap, "paces " + i + ";");
        }
        heap.by(3);
        for (int i = 0; i < 8; i++) {
            heap.said(i, 1);
        }
        heap.begin(0, 4, 0);
        heap.begin(1, 4, 1);
        for (int i = 0; i < 20; i++) {
            heap.store(4, 2, i % 6);
        }
        return heap;
    }
}
