import java.util.Arrays;

/**
 * A collector with coloured pointers over a heap of eight pages: objects move while programs run
 * and loads mend what they read. The numbered promises it keeps stand in the project's document.
 *
 * <p>Every row is made in a constructor and used again, so that no call makes an object.
 */
public final class ColouredHeap {
    public static final int NONE = -1;

    private static final int CANNOT = -2;
    private static final int NOTHING = -2;
    private static final int NO_ADDRESS = -3;

    private static final int PAGES = 8;
    private static final int PAGE_WORDS = 8;
    private static final int WORDS = 64;
    private static final int POINTERS = 192;
    private static final int ROOTS = 6;
    private static final int FIELDS = 3;
    private static final int THREADS = 2;
    private static final int HEAD = 1000;

    private static final int FREE = 0;
    private static final int IN_USE = 1;
    private static final int CHOSEN = 2;

    private static final int IDLE = 0;
    private static final int MARKING = 1;
    private static final int MOVING = 2;

    private static final int MENDED = 2;
    private static final int TO_MAKE = 0;
    private static final int TO_MOVE = 1;
    private static final int SAFE_WORDS_A_PAGE = 5;

    private static final int LAST_CLOCK = 9999;
    private static final int FIRST_X = 463;
    private static final int MOST_TICKS = 60;
    private static final int MOST_PACES = 9;
    private static final int MOST_DRAWS = 40;
    private static final int MOST_WAITED = 200;
    private static final int MOST_SEED = 9999;

    private static final int LINES = 25;
    private static final int LINE_PARTS = 3;
    private static final int LINE_KINDS = 6;
    private static final int STEPS = 30;
    private static final int TEXTS = 4;
    private static final int TAPE = 300;
    private static final int CLAUSES = 24;
    private static final int OPEN = 8;
    private static final int MOST_NUMBER = 9999;
    private static final int MOST_VALUE = 1000000;
    private static final int SAID = 8;
    private static final int LAWS = 2;

    private final Heap heap = new Heap();
    private final Steps steps = new Steps();
    private final Told told = new Told();
    private final Heap imageHeap = new Heap();
    private final Steps imageSteps = new Steps();
    private final Told imageTold = new Told();
    private final Heap trial = new Heap();
    private final Survey survey = new Survey();
    private final Reader reader = new Reader();
    private final Law law = new Law();
    private final Text[] texts = new Text[TEXTS];

    public ColouredHeap() {
        for (int i = 0; i < TEXTS; i++) {
            texts[i] = new Text();
        }
    }

    public int feed(int a, int b, int c, int d, int e) {
        if (reader.length + 20 > TAPE) {
            return NONE;
        }
        reader.add(a);
        reader.add(b);
        reader.add(c);
        reader.add(d);
        reader.add(e);
        return reader.length;
    }

    public int end(int n) {
        if (n < 0 || n > reader.length) {
            return NONE;
        }
        reader.length = n;
        return n;
    }

    public int text() {
        Text place = textAt(told.texts);
        if (place == null) {
            return NONE;
        }
        boolean isText = reader.readTape();
        reader.length = 0;
        if (!isText) {
            return NONE;
        }
        place.takeOver(reader.draft);
        told.texts++;
        return told.texts - 1;
    }

    public int fault(int what) {
        if (what == 0) {
            return reader.fault;
        }
        return what == 1 ? reader.faultPlace : NONE;
    }

    public boolean by(int text) {
        if (text < NONE || text >= told.texts) {
            return false;
        }
        told.ruling = text;
        return true;
    }

    public int make(int root, int fields) {
        if (!isRoot(root) || fields < 0 || fields > FIELDS) {
            return NONE;
        }
        Text ruling = textAt(told.ruling);
        int pace = law.paceOf(ruling, heap, fields);
        steps.prepare(heap);
        int address = heap.makeObject(root, fields);
        if (address == NONE) {
            return NONE;
        }
        steps.keep();
        for (int i = 0; i < pace && heap.clock < LAST_CLOCK; i++) {
            heap.tick(law, ruling);
        }
        return address;
    }

    public int load(int into, int from, int field) {
        if (!isRoot(into)) {
            return CANNOT;
        }
        steps.prepare(heap);
        int pointer = heap.loadField(into, from, field);
        if (pointer != CANNOT) {
            steps.keep();
        }
        return pointer;
    }

    public boolean store(int root, int field, int value) {
        if (!isRoot(value)) {
            return false;
        }
        steps.prepare(heap);
        boolean can = heap.storeField(root, field, value);
        if (can) {
            steps.keep();
        }
        return can;
    }

    public boolean drop(int root) {
        if (!isRoot(root) || heap.roots[root] == NONE) {
            return false;
        }
        steps.prepare(heap);
        steps.keep();
        heap.roots[root] = NONE;
        return true;
    }

    public boolean copy(int into, int from) {
        if (!isRoot(into) || !isRoot(from) || into == from) {
            return false;
        }
        steps.prepare(heap);
        steps.keep();
        heap.roots[into] = heap.roots[from];
        return true;
    }

    public int begin(int thread, int from, int field) {
        steps.prepare(heap);
        int begun = heap.beginRead(thread, from, field);
        if (begun != NONE) {
            steps.keep();
        }
        return begun;
    }

    public int finish(int thread, int into) {
        if (!isRoot(into) || !heap.hasBegun(thread)) {
            return CANNOT;
        }
        steps.prepare(heap);
        steps.keep();
        return heap.finishRead(thread, into);
    }

    public boolean start() {
        if (!heap.canMark()) {
            return false;
        }
        steps.prepare(heap);
        steps.keep();
        heap.turnToMarking();
        heap.mendRoots();
        return true;
    }

    public int choose() {
        if (!heap.canChoose()) {
            return NONE;
        }
        steps.prepare(heap);
        steps.keep();
        int pages = heap.turnToMoving(law, textAt(told.ruling));
        heap.mendRoots();
        return pages;
    }

    public int day(int n) {
        if (n < 1 || n > MOST_TICKS || heap.clock + n > LAST_CLOCK) {
            return NONE;
        }
        passTicks(n);
        return heap.phase;
    }

    public int played(int text) {
        Text script = text < told.texts ? textAt(text) : null;
        if (script == null) {
            return CANNOT;
        }
        for (int i = 0; i < CLAUSES && i < script.clauses; i++) {
            int a = script.firsts[i];
            int b = script.seconds[i];
            int c = script.thirds[i];
            boolean can = true;
            switch (script.kinds[i]) {
                case Kind.MAKE:
                    can = make(a, b) != NONE;
                    break;
                case Kind.LOAD:
                    can = load(a, b, c) != CANNOT;
                    break;
                case Kind.STORE:
                    can = store(b, c, a);
                    break;
                case Kind.DROP:
                    can = drop(a);
                    break;
                case Kind.DAY:
                    can = passTicks(a) == a;
                    break;
                default:
                    break;
            }
            if (!can) {
                return i;
            }
        }
        return NONE;
    }

    public int years(int seed, int n) {
        if (seed < 0 || seed > MOST_SEED || n < 1 || n > MOST_DRAWS) {
            return NONE;
        }
        steps.prepare(heap);
        steps.keep();
        heap.x = seed * 2 + FIRST_X;
        for (int i = 0; i < n; i++) {
            int x = heap.x;
            heap.x = (x * 733 + 599) % 31063;
            draw(x);
        }
        return heap.clock;
    }

    public int undo() {
        if (steps.count == 0) {
            return NONE;
        }
        steps.takeBack(heap);
        return steps.count;
    }

    public int root(int root) {
        return isRoot(root) ? heap.roots[root] : CANNOT;
    }

    public int at(int address) {
        return isAddress(address) ? heap.words[address] : NO_ADDRESS;
    }

    public int forward(int address) {
        return isAddress(address) ? heap.forwards[address] : NONE;
    }

    public int page(int page, int what) {
        if (!isPage(page)) {
            return NONE;
        }
        switch (what) {
            case 0:
                return heap.states[page];
            case 1:
                return heap.used[page];
            case 2:
                return heap.live[page];
            case 3:
                return law.picked(textAt(told.ruling), heap, page) ? 1 : 0;
            default:
                return NONE;
        }
    }

    public int is(int what) {
        switch (what) {
            case 0:
                return heap.clock;
            case 1:
                return heap.x;
            case 2:
                return heap.phase;
            case 3:
                return heap.good;
            case 4:
                return heap.stackSize;
            case 5:
                return heap.givenOn[TO_MAKE];
            case 6:
                return heap.givenOn[TO_MOVE];
            default:
                return CANNOT;
        }
    }

    public boolean marked(int address) {
        return isAddress(address) && heap.marks[address] == 1;
    }

    public int book(int i, int what) {
        return i == NONE ? heap.book.count : heap.book.part(i, what);
    }

    public int foretold(int n, int what) {
        if (n < 1 || n > MOST_TICKS || what < 0 || what > 1) {
            return NONE;
        }
        trial.takeOver(heap);
        for (int i = 0; i < n && trial.clock < LAST_CLOCK; i++) {
            trial.tick(law, textAt(told.ruling));
        }
        return what == 0 ? trial.phase : trial.freePages();
    }

    public int paces(int fields) {
        if (fields < 0 || fields > FIELDS) {
            return NONE;
        }
        return law.paceOf(textAt(told.ruling), heap, fields);
    }

    public int current(int pointer) {
        return heap.leadsTo(pointer);
    }

    public boolean reached(int address) {
        return isReached(address);
    }

    public int reach(boolean words) {
        survey.take(heap, NONE);
        return words ? survey.words : survey.count;
    }

    public int dead() {
        survey.take(heap, NONE);
        int words = 0;
        for (int page = 0; page < PAGES; page++) {
            words += survey.gapsOf(heap, page);
        }
        return words;
    }

    public int stale() {
        survey.take(heap, NONE);
        return survey.stale;
    }

    public boolean safe() {
        survey.take(heap, NONE);
        return survey.safe;
    }

    public int far(int address) {
        return isReached(address) ? survey.loads[address] : NONE;
    }

    public int retained(int address) {
        if (!isReached(address)) {
            return NONE;
        }
        int words = survey.words;
        survey.take(heap, address);
        return words - survey.words;
    }

    public int pack() {
        survey.take(heap, NONE);
        return survey.fewestPages(heap);
    }

    public int till() {
        trial.takeOver(heap);
        for (int ticks = 0; ticks <= MOST_WAITED; ticks++) {
            if (trial.phase == IDLE) {
                return ticks;
            }
            trial.tick(law, textAt(told.ruling));
        }
        return NONE;
    }

    public int alike() {
        if (heap.threadsBegun() != 3) {
            return NONE;
        }
        return agreesWhenFirst(0) && agreesWhenFirst(1) ? 1 : 0;
    }

    public int poorest() {
        int poorest = NONE;
        for (int page = PAGES - 1; page >= 0; page--) {
            if (heap.states[page] == IN_USE && (poorest == NONE || heap.live[page] <= heap.live[poorest])) {
                poorest = page;
            }
        }
        return poorest;
    }

    public int gaps(int page) {
        if (!isPage(page)) {
            return NONE;
        }
        survey.take(heap, NONE);
        return survey.gapsOf(heap, page);
    }

    public int shape(int address, int field) {
        if (!isReached(address)) {
            return NONE;
        }
        return heap.leadsTo(heap.fieldOf(address, field));
    }

    public boolean same(int a, int b) {
        if (!isReached(a) || !isReached(b) || heap.words[a] != heap.words[b]) {
            return false;
        }
        for (int field = 0; field < FIELDS; field++) {
            if (heap.leadsTo(heap.fieldOf(a, field)) != heap.leadsTo(heap.fieldOf(b, field))) {
                return false;
            }
        }
        return true;
    }

    public int chain(int address) {
        return isReached(address) ? survey.chainFrom(heap, address) : NONE;
    }

    public int said(int page, int picks) {
        if (page == NONE) {
            told.said = 0;
            return 0;
        }
        if (!isPage(page) || picks < 0 || picks > 1 || told.said >= SAID) {
            return CANNOT;
        }
        told.saidPages[told.said] = page;
        told.saidPicks[told.said] = picks;
        told.said++;
        return told.said;
    }

    public int whose() {
        int bits = 0;
        for (int i = 0; i < TEXTS && i < told.texts; i++) {
            if (agreesWithSaid(texts[i])) {
                bits |= 1 << i;
            }
        }
        return bits;
    }

    public int ledger(int what) {
        return what < 0 || what >= LINE_KINDS ? CANNOT : heap.book.linesOf(what);
    }

    public int image() {
        imageHeap.takeOver(heap);
        imageSteps.takeOver(steps);
        imageTold.takeOver(told);
        return heap.clock;
    }

    public int back() {
        heap.takeOver(imageHeap);
        steps.takeOver(imageSteps);
        told.takeOver(imageTold);
        return heap.clock;
    }

    public int about(int what) {
        switch (what) {
            case 0:
                return told.texts;
            case 1:
                return told.ruling;
            case 2:
                return steps.count;
            case 3:
                return heap.threadsBegun();
            case 4:
                return told.said;
            case 5:
                return reader.length;
            default:
                return CANNOT;
        }
    }

    private static boolean isRoot(int root) {
        return root >= 0 && root < ROOTS;
    }

    private static boolean isPage(int page) {
        return page >= 0 && page < PAGES;
    }

    private static boolean isAddress(int address) {
        return address >= 0 && address < WORDS;
    }

    private Text textAt(int i) {
        return i >= 0 && i < TEXTS ? texts[i] : null;
    }

    /** Leaves the survey as all is now, which the callers go on reading. */
    private boolean isReached(int address) {
        survey.take(heap, NONE);
        return isAddress(address) && survey.loads[address] != NONE;
    }

    /** Passes so many ticks, each a step, as far as the clock goes: how many passed. */
    private int passTicks(int n) {
        int passed = 0;
        for (int i = 0; i < n && heap.clock < LAST_CLOCK; i++) {
            steps.prepare(heap);
            steps.keep();
            heap.tick(law, textAt(told.ruling));
            passed++;
        }
        return passed;
    }

    private void draw(int x) {
        int part = x / 6;
        switch (x % 6) {
            case 0:
                heap.makeObject(x % 5, part % 4);
                break;
            case 1:
                heap.loadField(4 + x % 2, x % 4, part % 3);
                break;
            case 2:
                heap.storeField(x % 4, x % 3, part % 6);
                break;
            case 3:
                if (x % 4 == 1 && isRoot(part % 6)) {
                    heap.roots[part % 6] = NONE;
                }
                break;
            default:
                if (heap.clock < LAST_CLOCK) {
                    heap.tick(law, textAt(told.ruling));
                }
                break;
        }
    }

    /** Whether both pointers lead where their words do, if this thread finishes ahead of the other. */
    private boolean agreesWhenFirst(int thread) {
        trial.takeOver(heap);
        int word0 = trial.readWords[0];
        int word1 = trial.readWords[1];
        trial.finishRead(thread, thread);
        trial.finishRead(1 - thread, 1 - thread);
        return isAddress(word0) && isAddress(word1)
            && trial.leadsTo(trial.roots[0]) == trial.leadsTo(trial.words[word0])
            && trial.leadsTo(trial.roots[1]) == trial.leadsTo(trial.words[word1]);
    }

    private boolean agreesWithSaid(Text text) {
        for (int i = 0; i < SAID && i < told.said; i++) {
            boolean picked = law.picked(text, heap, told.saidPages[i]);
            if (picked != (told.saidPicks[i] == 1)) {
                return false;
            }
        }
        return true;
    }

    /** What the document's first part tells, in one piece, so that steps, images and trials copy it whole. */
    private static final class Heap {
        final int[] words = new int[WORDS];
        final int[] forwards = new int[WORDS];
        final int[] marks = new int[WORDS];
        final int[] stack = new int[WORDS];
        final int[] live = new int[PAGES];
        final int[] used = new int[PAGES];
        final int[] states = new int[PAGES];
        final int[] roots = new int[ROOTS];
        final int[] givenOn = new int[2];
        final int[] readWords = new int[THREADS];
        final int[] readPointers = new int[THREADS];
        final int[] ownCopies = new int[THREADS];
        final Book book = new Book();
        int stackSize = 0;
        int phase = IDLE;
        int good = MENDED;
        int latestMark = 1;
        int clock = 0;
        int x = FIRST_X;

        Heap() {
            Arrays.fill(words, NOTHING);
            Arrays.fill(forwards, NONE);
            Arrays.fill(roots, NONE);
            Arrays.fill(givenOn, NONE);
            Arrays.fill(readWords, NONE);
            Arrays.fill(readPointers, NONE);
            Arrays.fill(ownCopies, NONE);
        }

        void takeOver(Heap from) {
            System.arraycopy(from.words, 0, words, 0, WORDS);
            System.arraycopy(from.forwards, 0, forwards, 0, WORDS);
            System.arraycopy(from.marks, 0, marks, 0, WORDS);
            System.arraycopy(from.stack, 0, stack, 0, WORDS);
            System.arraycopy(from.live, 0, live, 0, PAGES);
            System.arraycopy(from.used, 0, used, 0, PAGES);
            System.arraycopy(from.states, 0, states, 0, PAGES);
            System.arraycopy(from.roots, 0, roots, 0, ROOTS);
            System.arraycopy(from.givenOn, 0, givenOn, 0, 2);
            System.arraycopy(from.readWords, 0, readWords, 0, THREADS);
            System.arraycopy(from.readPointers, 0, readPointers, 0, THREADS);
            System.arraycopy(from.ownCopies, 0, ownCopies, 0, THREADS);
            book.takeOver(from.book);
            stackSize = from.stackSize;
            phase = from.phase;
            good = from.good;
            latestMark = from.latestMark;
            clock = from.clock;
            x = from.x;
        }

        /** Where a pointer leads; none leads nowhere. */
        int leadsTo(int pointer) {
            if (pointer < 0 || pointer >= POINTERS) {
                return NONE;
            }
            int colour = pointer / WORDS;
            int address = pointer % WORDS;
            boolean direct = colour == good || colour == MENDED || forwards[address] == NONE;
            return direct ? address : forwards[address];
        }

        /** How many words the object there has; 0, if no object's head is there. */
        int sizeAt(int address) {
            return isAddress(address) && words[address] >= HEAD ? words[address] - HEAD + 1 : 0;
        }

        /** The pointer in a field of the object there; none, too, if it has no such field. */
        int fieldOf(int address, int field) {
            int word = address + 1 + field;
            return field >= 0 && field < sizeAt(address) - 1 && word < WORDS ? words[word] : NONE;
        }

        /** The address of the word of a field of a root's object; NONE, if there is no such field. */
        int fieldWord(int root, int field) {
            if (!isRoot(root) || roots[root] < 0 || field < 0) {
                return NONE;
            }
            int address = roots[root] % WORDS;
            int word = address + 1 + field;
            return field < sizeAt(address) - 1 && word < WORDS ? word : NONE;
        }

        int freePages() {
            int bits = 0;
            for (int page = 0; page < PAGES; page++) {
                if (states[page] == FREE) {
                    bits |= 1 << page;
                }
            }
            return bits;
        }

        boolean hasBegun(int thread) {
            return thread >= 0 && thread < THREADS && readWords[thread] != NONE;
        }

        int threadsBegun() {
            return (hasBegun(0) ? 1 : 0) + (hasBegun(1) ? 2 : 0);
        }

        boolean canMark() {
            return phase == IDLE && threadsBegun() == 0;
        }

        boolean canChoose() {
            return phase == MARKING && stackSize == 0 && threadsBegun() == 0;
        }

        /** Words behind one another for making or for moving: their first address; NONE, if there is no room. */
        int giveOut(int use, int size) {
            int page = givenOn[use];
            if (!isPage(page) || used[page] + size > PAGE_WORDS) {
                page = 0;
                while (page < PAGES && states[page] != FREE) {
                    page++;
                }
                if (page >= PAGES || size > PAGE_WORDS) {
                    return NONE;
                }
                states[page] = IN_USE;
                givenOn[use] = page;
            }
            int address = page * PAGE_WORDS + used[page];
            used[page] += size;
            return address;
        }

        /** What lives in a page is counted here, so that a law that asks for it need not count. */
        void mark(int address) {
            if (address >= 0 && address < WORDS && marks[address] == 0 && words[address] >= HEAD) {
                marks[address] = 1;
                live[address / PAGE_WORDS] += words[address] - HEAD + 1;
            }
        }

        void copyWords(int from, int to, int size) {
            for (int i = 0; i < size; i++) {
                if (from >= 0 && to >= 0 && from + i < WORDS && to + i < WORDS) {
                    words[to + i] = words[from + i];
                }
            }
        }

        void clearWords(int from, int to) {
            for (int word = Math.max(from, 0); word < to && word < WORDS; word++) {
                words[word] = NOTHING;
                marks[word] = 0;
            }
        }

        boolean mustMove(int address) {
            return phase == MOVING && isAddress(address)
                && states[address / PAGE_WORDS] == CHOSEN && forwards[address] == NONE;
        }

        /** From here on, all who come to the old one are sent to the copy. */
        void tellForward(int old, int copied) {
            if (isAddress(old)) {
                forwards[old] = copied;
                mark(copied);
                book.write(clock, Book.MOVED, old);
            }
        }

        /** Where the object has been moved to; NONE, if there is no room. */
        int moveObject(int old) {
            int size = sizeAt(old);
            int to = giveOut(TO_MOVE, size);
            if (to != NONE) {
                copyWords(old, to, size);
                tellForward(old, to);
            }
            return to;
        }

        /** The pointer as the barrier leaves it; CANNOT, if its object has to move and there is no room. */
        int mend(int pointer) {
            if (pointer < 0 || pointer / WORDS == good) {
                return pointer;
            }
            int address = leadsTo(pointer);
            if (phase == MARKING) {
                markAndStack(address);
            } else if (mustMove(address)) {
                address = moveObject(address);
            }
            return address == NONE ? CANNOT : good * WORDS + address;
        }

        void markAndStack(int address) {
            if (isAddress(address) && marks[address] == 0 && stackSize < WORDS) {
                mark(address);
                stack[stackSize] = address;
                stackSize++;
            }
        }

        /** The word of an object is what was mended; CANNOT changes nothing. */
        void writeMended(int word, int mended) {
            if (mended != CANNOT && isAddress(word) && words[word] != mended) {
                words[word] = mended;
                book.write(clock, Book.MENDED_WORD, word);
            }
        }

        void mendRoots() {
            for (int root = 0; root < ROOTS; root++) {
                int mended = mend(roots[root]);
                if (mended != CANNOT) {
                    roots[root] = mended;
                }
            }
        }

        /** The address of the new object; NONE, if there is no room. */
        int makeObject(int root, int fields) {
            if (!isRoot(root) || fields < 0 || fields > FIELDS) {
                return NONE;
            }
            int address = giveOut(TO_MAKE, fields + 1);
            if (!isAddress(address)) {
                return NONE;
            }
            words[address] = HEAD + fields;
            for (int word = address + 1; word <= address + fields && word < WORDS; word++) {
                words[word] = NONE;
            }
            roots[root] = good * WORDS + address;
            if (phase != IDLE) {
                mark(address);
            }
            book.write(clock, Book.MADE, address);
            return address;
        }

        /** The pointer that the root has then; CANNOT, if it can't be. */
        int loadField(int into, int from, int field) {
            int word = fieldWord(from, field);
            if (!isRoot(into) || !isAddress(word)) {
                return CANNOT;
            }
            int mended = mend(words[word]);
            writeMended(word, mended);
            if (mended != CANNOT) {
                roots[into] = mended;
            }
            return mended;
        }

        boolean storeField(int root, int field, int value) {
            int word = fieldWord(root, field);
            if (!isAddress(word) || !isRoot(value)) {
                return false;
            }
            words[word] = roots[value];
            return true;
        }

        /** 1, if the thread has a copy of its own; 0 without; NONE, if it can't be. */
        int beginRead(int thread, int from, int field) {
            int word = fieldWord(from, field);
            if (thread < 0 || thread >= THREADS || hasBegun(thread) || !isAddress(word)) {
                return NONE;
            }
            int pointer = words[word];
            int old = leadsTo(pointer);
            int own = NONE;
            if (pointer >= 0 && pointer / WORDS != good && mustMove(old)) {
                own = giveOut(TO_MOVE, sizeAt(old));
                if (own == NONE) {
                    return NONE;
                }
                copyWords(old, own, sizeAt(old));
            }
            readWords[thread] = word;
            readPointers[thread] = pointer;
            ownCopies[thread] = own;
            return own == NONE ? 0 : 1;
        }

        /** The mended pointer, which the root has then. */
        int finishRead(int thread, int into) {
            if (!hasBegun(thread) || !isRoot(into)) {
                return CANNOT;
            }
            int word = readWords[thread];
            int pointer = readPointers[thread];
            settleCopy(leadsTo(pointer), ownCopies[thread]);
            readWords[thread] = NONE;
            readPointers[thread] = NONE;
            ownCopies[thread] = NONE;
            int mended = mend(pointer);
            if (isAddress(word) && words[word] == pointer) {
                writeMended(word, mended);
            }
            roots[into] = mended;
            return mended;
        }

        /** The race is decided here: the thread's copy is the one, or it came too late. */
        void settleCopy(int old, int own) {
            if (!isAddress(own)) {
                return;
            }
            if (mustMove(old)) {
                tellForward(old, own);
                return;
            }
            int page = own / PAGE_WORDS;
            int size = sizeAt(own);
            if (own + size == page * PAGE_WORDS + used[page]) {
                used[page] -= size;
                clearWords(own, own + size);
            }
        }

        /** The caller mends the roots then. */
        void turnToMarking() {
            latestMark = 1 - latestMark;
            good = latestMark;
            phase = MARKING;
            Arrays.fill(marks, 0);
            Arrays.fill(live, 0);
            stackSize = 0;
            book.write(clock, Book.BEGUN_TO_MARK, good);
        }

        void markOne() {
            if (stackSize < 1 || stackSize > WORDS) {
                return;
            }
            stackSize--;
            int address = stack[stackSize];
            int last = address + sizeAt(address) - 1;
            for (int word = address + 1; word >= 0 && word <= last && word < WORDS; word++) {
                writeMended(word, mend(words[word]));
            }
        }

        /** How many pages are chosen. The caller mends the roots then. */
        int turnToMoving(Law law, Text text) {
            Arrays.fill(forwards, NONE);
            freePagesWithoutLife();
            good = MENDED;
            phase = MOVING;
            int bits = pickPages(law, text);
            givenOn[TO_MOVE] = NONE;
            book.write(clock, Book.CHOSEN_PAGES, bits);
            return Integer.bitCount(bits);
        }

        boolean mayBeEmptied(int page) {
            return isPage(page) && states[page] == IN_USE && page != givenOn[TO_MAKE] && page != givenOn[TO_MOVE];
        }

        void freePagesWithoutLife() {
            for (int page = 0; page < PAGES; page++) {
                if (mayBeEmptied(page) && live[page] == 0) {
                    freePage(page);
                }
            }
        }

        void freePage(int page) {
            if (!isPage(page)) {
                return;
            }
            clearWords(page * PAGE_WORDS, (page + 1) * PAGE_WORDS);
            live[page] = 0;
            used[page] = 0;
            states[page] = FREE;
            book.write(clock, Book.FREED, page);
        }

        /** The bits of the pages that the law picks and that have room to go to, poorest first. */
        int pickPages(Law law, Text text) {
            int room = SAFE_WORDS_A_PAGE * Integer.bitCount(freePages());
            int bits = 0;
            for (int lives = 1; lives <= PAGE_WORDS; lives++) {
                for (int page = 0; page < PAGES; page++) {
                    if (live[page] == lives && lives <= room && mayBeEmptied(page) && law.picked(text, this, page)) {
                        states[page] = CHOSEN;
                        bits |= 1 << page;
                        room -= lives;
                    }
                }
            }
            return bits;
        }

        void moveOne() {
            for (int address = 0; address < WORDS; address++) {
                if (marks[address] == 1 && mustMove(address)) {
                    moveObject(address);
                    return;
                }
            }
            if (threadsBegun() == 0) {
                endMoving();
            }
        }

        void endMoving() {
            for (int page = 0; page < PAGES; page++) {
                if (states[page] == CHOSEN) {
                    freePage(page);
                }
            }
            phase = IDLE;
        }

        /** What can't be done isn't, but the clock goes on. */
        void tick(Law law, Text text) {
            if (phase == MOVING) {
                moveOne();
            } else if (phase == MARKING && stackSize > 0) {
                markOne();
            } else if (canChoose()) {
                turnToMoving(law, text);
                mendRoots();
            } else if (canMark()) {
                turnToMarking();
                mendRoots();
            }
            clock++;
        }
    }

    /** The latest lines of what was written down, in a ring. */
    private static final class Book {
        static final int MADE = 0;
        static final int BEGUN_TO_MARK = 1;
        static final int CHOSEN_PAGES = 2;
        static final int FREED = 3;
        static final int MOVED = 4;
        static final int MENDED_WORD = 5;

        private final int[] parts = new int[LINES * LINE_PARTS];
        private int first = 0;
        int count = 0;

        void takeOver(Book from) {
            System.arraycopy(from.parts, 0, parts, 0, LINES * LINE_PARTS);
            first = from.first;
            count = from.count;
        }

        void write(int clock, int kind, int what) {
            int line = (first + count) % LINES * LINE_PARTS;
            if (line < 0 || line + 2 >= parts.length) {
                return;
            }
            parts[line] = clock;
            parts[line + 1] = kind;
            parts[line + 2] = what;
            if (count < LINES) {
                count++;
            } else {
                first = (first + 1) % LINES;
            }
        }

        int part(int i, int what) {
            if (i < 0 || i >= count || what < 0 || what >= LINE_PARTS) {
                return CANNOT;
            }
            int place = (first + i) % LINES * LINE_PARTS + what;
            return place >= 0 && place < parts.length ? parts[place] : CANNOT;
        }

        int linesOf(int kind) {
            int lines = 0;
            for (int i = 0; i < count; i++) {
                if (part(i, 1) == kind) {
                    lines++;
                }
            }
            return lines;
        }
    }

    /** Heaps as they were ahead of the latest steps; one row more than can be kept is there to prepare a step in. */
    private static final class Steps {
        private static final int ROWS = STEPS + 1;

        private final Heap[] rows = new Heap[ROWS];
        private int first = 0;
        int count = 0;

        Steps() {
            for (int i = 0; i < ROWS; i++) {
                rows[i] = new Heap();
            }
        }

        private Heap row(int i) {
            int place = (first + i) % ROWS;
            return place >= 0 ? rows[place] : null;
        }

        void takeOver(Steps from) {
            first = 0;
            count = from.count;
            for (int i = 0; i < count; i++) {
                Heap mine = row(i);
                Heap other = from.row(i);
                if (mine != null && other != null) {
                    mine.takeOver(other);
                }
            }
        }

        /** A step that turns out not to be possible is prepared only, and never kept. */
        void prepare(Heap heap) {
            Heap next = row(count);
            if (next != null) {
                next.takeOver(heap);
            }
        }

        void keep() {
            if (count < STEPS) {
                count++;
            } else {
                first = (first + 1) % ROWS;
            }
        }

        void takeBack(Heap heap) {
            if (count < 1) {
                return;
            }
            count--;
            Heap latest = row(count);
            if (latest != null) {
                heap.takeOver(latest);
            }
        }
    }

    /**
     * What was told beside the heap. A text is never changed once it has a number, and the image never has more of
     * them than there are: so their number alone is kept here.
     */
    private static final class Told {
        final int[] saidPages = new int[SAID];
        final int[] saidPicks = new int[SAID];
        int said = 0;
        int texts = 0;
        int ruling = NONE;

        void takeOver(Told from) {
            System.arraycopy(from.saidPages, 0, saidPages, 0, SAID);
            System.arraycopy(from.saidPicks, 0, saidPicks, 0, SAID);
            said = from.said;
            texts = from.texts;
            ruling = from.ruling;
        }
    }

    /** What is reached from the roots, nearest first, and what is found on the way. */
    private static final class Survey {
        final int[] loads = new int[WORDS];
        private final int[] found = new int[WORDS];
        private final int[] seen = new int[WORDS];
        int count;
        int words;
        int stale;
        boolean safe;

        /** Looks at all as it is, but as if at the address left out no object were. */
        void take(Heap heap, int leftOut) {
            Arrays.fill(loads, NONE);
            count = 0;
            words = 0;
            stale = 0;
            safe = true;
            for (int root = 0; root < ROOTS; root++) {
                follow(heap, heap.roots[root], 0, leftOut);
            }
            for (int i = 0; i < count && i < WORDS; i++) {
                int address = found[i];
                int fields = heap.sizeAt(address) - 1;
                for (int field = 0; field < fields; field++) {
                    follow(heap, heap.fieldOf(address, field), loads[address] + 1, leftOut);
                }
            }
        }

        private void follow(Heap heap, int pointer, int far, int leftOut) {
            if (pointer < 0) {
                return;
            }
            if (pointer / WORDS != heap.good) {
                stale++;
            }
            int address = heap.leadsTo(pointer);
            int size = heap.sizeAt(address);
            if (size == 0 || !isAddress(address) || heap.states[address / PAGE_WORDS] == FREE) {
                safe = false;
                return;
            }
            if (loads[address] == NONE && address != leftOut && count < WORDS) {
                loads[address] = far;
                found[count] = address;
                count++;
                words += size;
            }
        }

        int gapsOf(Heap heap, int page) {
            if (!isPage(page)) {
                return NONE;
            }
            int gaps = heap.used[page];
            for (int address = page * PAGE_WORDS; address < (page + 1) * PAGE_WORDS; address++) {
                if (loads[address] != NONE) {
                    gaps -= heap.sizeAt(address);
                }
            }
            return gaps;
        }

        int chainFrom(Heap heap, int address) {
            Arrays.fill(seen, 0);
            int at = address;
            int length = 0;
            while (length < WORDS && isAddress(at) && loads[at] != NONE && seen[at] == 0) {
                seen[at] = 1;
                length++;
                at = heap.leadsTo(heap.fieldOf(at, 0));
            }
            return length;
        }

        private int objectsOf(Heap heap, int size) {
            int objects = 0;
            for (int i = 0; i < count && i < WORDS; i++) {
                if (heap.sizeAt(found[i]) == size) {
                    objects++;
                }
            }
            return objects;
        }

        /**
         * Only objects of three words leave odd room. So each way to set them in pairs is tried: a pair leaves two
         * words, one alone leaves four that can be used, and twos and fours fill halves of pages without loss; ones
         * go anywhere.
         */
        int fewestPages(Heap heap) {
            int twos = objectsOf(heap, 2);
            int threes = objectsOf(heap, 3);
            int fours = objectsOf(heap, 4);
            int fewest = WORDS;
            for (int pairs = 0; pairs * 2 <= threes; pairs++) {
                int alone = threes - pairs * 2;
                int twosLeft = Math.max(0, twos - pairs);
                int halvesLeft = Math.max(0, fours + (twosLeft + 1) / 2 - alone);
                fewest = Math.min(fewest, pairs + alone + (halvesLeft + 1) / 2);
            }
            return Math.max(fewest, (words + PAGE_WORDS - 1) / PAGE_WORDS);
        }
    }

    /** What a token is; the words stand in the order of Reader.VOCABULARY, the signs in that of Reader.SIGNS. */
    private static final class Kind {
        static final int PICKS = 0;
        static final int PACES = 1;
        static final int MAKE = 2;
        static final int LOAD = 3;
        static final int STORE = 4;
        static final int DROP = 5;
        static final int DAY = 6;
        static final int OF = 7;
        static final int FROM = 8;
        static final int TO = 9;
        static final int LIVE = 10;
        static final int USED = 11;
        static final int IF = 12;
        static final int THEN = 13;
        static final int ELSE = 14;
        static final int END = 15;
        static final int OR = 16;
        static final int AND = 17;
        static final int NOT = 18;
        static final int CLOCK = 19;
        static final int PHASE = 20;
        static final int FREE_PAGES = 21;
        static final int STACK = 22;
        static final int PAGE = 23;
        static final int LIVES = 24;
        static final int WORDS_USED = 25;
        static final int FIELDS_MADE = 26;

        static final int LESS = 27;
        static final int MORE = 28;
        static final int LIKE = 29;
        static final int UNLIKE = 30;
        static final int PLUS = 31;
        static final int MINUS = 32;
        static final int TIMES = 33;
        static final int BY = 34;
        static final int OPENED = 35;
        static final int CLOSED = 36;
        static final int SEMICOLON = 37;
        static final int AT_MOST = 38;
        static final int AT_LEAST = 39;

        static final int NUMBER = 40;
        static final int THE_END = 41;
        static final int NO_TOKEN = 42;

        /** These stand in a law's code alone. */
        static final int NEGATE = 43;
        static final int JUMP = 44;
        static final int JUMP_UNLESS = 45;
    }

    /** A text that was read: its clauses, and its laws as code for a machine with a stack. */
    private static final class Text {
        final int[] kinds = new int[CLAUSES];
        final int[] firsts = new int[CLAUSES];
        final int[] seconds = new int[CLAUSES];
        final int[] thirds = new int[CLAUSES];
        final int[] operations = new int[TAPE];
        final int[] operands = new int[TAPE];
        final int[] lawStarts = new int[LAWS];
        final int[] lawEnds = new int[LAWS];
        int clauses = 0;
        int codeLength = 0;

        void takeOver(Text from) {
            System.arraycopy(from.kinds, 0, kinds, 0, CLAUSES);
            System.arraycopy(from.firsts, 0, firsts, 0, CLAUSES);
            System.arraycopy(from.seconds, 0, seconds, 0, CLAUSES);
            System.arraycopy(from.thirds, 0, thirds, 0, CLAUSES);
            System.arraycopy(from.operations, 0, operations, 0, TAPE);
            System.arraycopy(from.operands, 0, operands, 0, TAPE);
            System.arraycopy(from.lawStarts, 0, lawStarts, 0, LAWS);
            System.arraycopy(from.lawEnds, 0, lawEnds, 0, LAWS);
            clauses = from.clauses;
            codeLength = from.codeLength;
        }

        void clear() {
            clauses = 0;
            codeLength = 0;
            Arrays.fill(lawStarts, NONE);
            Arrays.fill(lawEnds, NONE);
        }

        boolean hasLaw(int kind) {
            return kind >= 0 && kind < LAWS && lawStarts[kind] != NONE;
        }

        void addClause(int kind, int first, int second, int third) {
            if (clauses < CLAUSES) {
                kinds[clauses] = kind;
                firsts[clauses] = first;
                seconds[clauses] = second;
                thirds[clauses] = third;
                clauses++;
            }
        }

        /** Where the operation stands. */
        int addCode(int operation, int operand) {
            if (codeLength >= TAPE) {
                return NONE;
            }
            operations[codeLength] = operation;
            operands[codeLength] = operand;
            codeLength++;
            return codeLength - 1;
        }

        /** The jump that stands there goes to what comes next. */
        void landHere(int jump) {
            if (jump >= 0 && jump < codeLength) {
                operands[jump] = codeLength;
            }
        }
    }

    /** The tape, and how it is read. A fault, once found, stops all that reads on. */
    private static final class Reader {
        private static final String VOCABULARY =
            " picks paces make load store drop day of from to live used if then else end or and not clock phase free stack page lives words fields ";
        private static final String SIGNS = "<>=#+-*/();";

        private static final int MISPLACED = 1;
        private static final int OUT_OF_RANGE = 2;
        private static final int TOO_DEEP = 3;
        private static final int SECOND_LAW = 4;
        private static final int FOREIGN_NAME = 5;
        private static final int TOO_MANY = 6;

        private final int[] tape = new int[TAPE];
        private final int[] kinds = new int[TAPE + 1];
        private final int[] places = new int[TAPE + 1];
        private final int[] numbers = new int[TAPE + 1];
        final Text draft = new Text();
        int length = 0;
        int fault = NONE;
        int faultPlace = NONE;
        private int tokens = 0;
        private int next = 0;
        private int lawRead = NONE;

        void add(int four) {
            for (int shift = 24; shift >= 0 && length < TAPE; shift -= 8) {
                tape[length] = four >>> shift & 255;
                length++;
            }
        }

        /** Whether the tape is a text without a fault; it is the draft then. */
        boolean readTape() {
            draft.clear();
            fault = 0;
            faultPlace = NONE;
            scan();
            next = 0;
            for (int i = 0; i <= CLAUSES && fault == 0 && !isNext(Kind.THE_END); i++) {
                clause();
            }
            return fault == 0;
        }

        private void scan() {
            tokens = 0;
            int at = 0;
            for (int turns = 0; turns < TAPE && at < length; turns++) {
                at = scanFrom(at);
            }
            addToken(Kind.THE_END, length, 0);
        }

        private void addToken(int kind, int place, int number) {
            if (tokens <= TAPE) {
                kinds[tokens] = kind;
                places[tokens] = place;
                numbers[tokens] = number;
                tokens++;
            }
        }

        /** Takes up the token, or passes over the blank, that stands there: where the next one begins. */
        private int scanFrom(int at) {
            int sign = byteAt(at);
            if (sign == 32 || sign == 10) {
                return at + 1;
            }
            if (isLetter(sign)) {
                int end = at;
                while (end < length && isLetter(byteAt(end))) {
                    end++;
                }
                addToken(wordKind(at, end), at, 0);
                return end;
            }
            if (isDigit(sign)) {
                int end = at;
                int number = 0;
                while (end < length && isDigit(byteAt(end))) {
                    number = Math.min(MOST_NUMBER + 1, number * 10 + byteAt(end) - '0');
                    end++;
                }
                addToken(Kind.NUMBER, at, number);
                return end;
            }
            boolean two = (sign == '<' || sign == '>') && byteAt(at + 1) == '=';
            if (two) {
                addToken(sign == '<' ? Kind.AT_MOST : Kind.AT_LEAST, at, 0);
                return at + 2;
            }
            int which = SIGNS.indexOf((char) sign);
            addToken(which < 0 ? Kind.NO_TOKEN : Kind.LESS + which, at, 0);
            return at + 1;
        }

        private int byteAt(int at) {
            return at >= 0 && at < length && at < TAPE ? tape[at] : NONE;
        }

        private static boolean isLetter(int sign) {
            return sign >= 'a' && sign <= 'z' || sign >= 'A' && sign <= 'Z';
        }

        private static boolean isDigit(int sign) {
            return sign >= '0' && sign <= '9';
        }

        /** How many words stand ahead of it in the vocabulary, which is its kind. */
        private int wordKind(int from, int to) {
            int kind = 0;
            int start = 1;
            for (int i = 1; i < VOCABULARY.length(); i++) {
                if (VOCABULARY.charAt(i) == ' ') {
                    if (isWord(from, to, start, i)) {
                        return kind;
                    }
                    kind++;
                    start = i + 1;
                }
            }
            return Kind.NO_TOKEN;
        }

        private boolean isWord(int from, int to, int start, int end) {
            if (to - from != end - start || start < 0 || end > VOCABULARY.length()) {
                return false;
            }
            for (int i = 0; i < end - start; i++) {
                if (byteAt(from + i) != VOCABULARY.charAt(start + i)) {
                    return false;
                }
            }
            return true;
        }

        private boolean isNext(int kind) {
            return nextKind() == kind;
        }

        /** Behind a fault there is no token any more that could stand anywhere. */
        private int nextKind() {
            return fault == 0 && next >= 0 && next < tokens ? kinds[next] : Kind.NO_TOKEN;
        }

        private void refuse(int what) {
            if (fault == 0 && next >= 0 && next < tokens) {
                fault = what;
                faultPlace = places[next];
            }
        }

        private void want(int kind) {
            if (isNext(kind)) {
                next++;
            } else {
                refuse(MISPLACED);
            }
        }

        private int wantNumber(int least, int most) {
            if (!isNext(Kind.NUMBER)) {
                refuse(MISPLACED);
                return 0;
            }
            int number = numbers[next];
            if (number < least || number > most) {
                refuse(OUT_OF_RANGE);
                return 0;
            }
            next++;
            return number;
        }

        private int wantRoot() {
            return wantNumber(0, ROOTS - 1);
        }

        private void clause() {
            int kind = nextKind();
            if (kind > Kind.DAY) {
                refuse(MISPLACED);
            } else if (draft.hasLaw(kind)) {
                refuse(SECOND_LAW);
            } else if (draft.clauses >= CLAUSES) {
                refuse(TOO_MANY);
            } else {
                next++;
                if (kind <= Kind.PACES) {
                    lawClause(kind);
                } else {
                    deedClause(kind);
                }
                want(Kind.SEMICOLON);
            }
        }

        private void lawClause(int kind) {
            if (kind < 0 || kind >= LAWS) {
                return;
            }
            lawRead = kind;
            draft.lawStarts[kind] = draft.codeLength;
            sum(0);
            draft.lawEnds[kind] = draft.codeLength;
            draft.addClause(kind, 0, 0, 0);
        }

        private void deedClause(int kind) {
            if (kind == Kind.DAY) {
                draft.addClause(kind, wantNumber(1, MOST_TICKS), 0, 0);
                return;
            }
            int first = wantRoot();
            int second = 0;
            int third = 0;
            if (kind == Kind.MAKE) {
                want(Kind.OF);
                second = wantNumber(0, FIELDS);
            } else if (kind == Kind.LOAD || kind == Kind.STORE) {
                want(kind == Kind.LOAD ? Kind.FROM : Kind.TO);
                second = wantRoot();
                want(Kind.OF);
                third = wantNumber(0, FIELDS - 1);
            }
            draft.addClause(kind, first, second, third);
        }

        private int emit(int operation, int operand) {
            return fault == 0 ? draft.addCode(operation, operand) : NONE;
        }

        private void sum(int depth) {
            product(depth);
            for (int turns = 0; turns < TAPE && (isNext(Kind.PLUS) || isNext(Kind.MINUS)); turns++) {
                int operation = nextKind();
                next++;
                product(depth);
                emit(operation, 0);
            }
        }

        private void product(int depth) {
            one(depth);
            for (int turns = 0; turns < TAPE && (isNext(Kind.TIMES) || isNext(Kind.BY)); turns++) {
                int operation = nextKind();
                next++;
                one(depth);
                emit(operation, 0);
            }
        }

        private void one(int depth) {
            int kind = nextKind();
            if (kind == Kind.NUMBER) {
                emit(Kind.NUMBER, wantNumber(0, MOST_NUMBER));
            } else if (kind >= Kind.CLOCK && kind <= Kind.FIELDS_MADE) {
                name(kind);
            } else if (!opensOne(kind)) {
                refuse(MISPLACED);
            } else if (depth >= OPEN) {
                refuse(TOO_DEEP);
            } else {
                next++;
                openedOne(kind, depth + 1);
            }
        }

        private static boolean opensOne(int kind) {
            return kind == Kind.OPENED || kind == Kind.MINUS || kind == Kind.IF || kind == Kind.LIVE
                || kind == Kind.USED;
        }

        private void openedOne(int kind, int depth) {
            if (kind == Kind.OPENED) {
                sum(depth);
                want(Kind.CLOSED);
            } else if (kind == Kind.IF) {
                choice(depth);
            } else {
                one(depth);
                emit(kind == Kind.MINUS ? Kind.NEGATE : kind, 0);
            }
        }

        private void name(int kind) {
            boolean ofBoth = kind <= Kind.STACK;
            boolean ofThis = (kind == Kind.FIELDS_MADE) == (lawRead == Kind.PACES);
            if (ofBoth || ofThis) {
                emit(kind, 0);
                next++;
            } else {
                refuse(FOREIGN_NAME);
            }
        }

        private void choice(int depth) {
            either(depth);
            want(Kind.THEN);
            int otherwise = emit(Kind.JUMP_UNLESS, 0);
            sum(depth);
            want(Kind.ELSE);
            int over = emit(Kind.JUMP, 0);
            draft.landHere(otherwise);
            sum(depth);
            want(Kind.END);
            draft.landHere(over);
        }

        private void either(int depth) {
            both(depth);
            for (int turns = 0; turns < TAPE && isNext(Kind.OR); turns++) {
                next++;
                both(depth);
                emit(Kind.OR, 0);
            }
        }

        private void both(int depth) {
            ask(depth);
            for (int turns = 0; turns < TAPE && isNext(Kind.AND); turns++) {
                next++;
                ask(depth);
                emit(Kind.AND, 0);
            }
        }

        private void ask(int depth) {
            if (!isNext(Kind.NOT)) {
                comparison(depth);
            } else if (depth >= OPEN) {
                refuse(TOO_DEEP);
            } else {
                next++;
                ask(depth + 1);
                emit(Kind.NOT, 0);
            }
        }

        private void comparison(int depth) {
            sum(depth);
            int operation = nextKind();
            boolean compares = operation >= Kind.LESS && operation <= Kind.UNLIKE
                || operation == Kind.AT_MOST || operation == Kind.AT_LEAST;
            if (compares) {
                next++;
                sum(depth);
                emit(operation, 0);
            } else {
                refuse(MISPLACED);
            }
        }
    }

    /** Asks a text's laws. Its stack is as long as a law's code can be, so that it never overflows. */
    private static final class Law {
        private final int[] stack = new int[TAPE];
        private int size = 0;

        boolean picked(Text text, Heap heap, int page) {
            if (!isPage(page)) {
                return false;
            }
            if (text == null || !text.hasLaw(Kind.PICKS)) {
                return heap.live[page] * 2 <= heap.used[page];
            }
            return value(text, Kind.PICKS, heap, page) > 0;
        }

        int paceOf(Text text, Heap heap, int fields) {
            if (text == null || !text.hasLaw(Kind.PACES)) {
                return 0;
            }
            return Math.max(0, Math.min(MOST_PACES, value(text, Kind.PACES, heap, fields)));
        }

        /** The subject is the page that is asked about, or the number of fields. Jumps go onwards only. */
        private int value(Text text, int law, Heap heap, int subject) {
            size = 0;
            int at = text.lawStarts[law];
            int end = Math.min(text.lawEnds[law], TAPE);
            for (int turns = 0; turns < TAPE && at >= 0 && at < end; turns++) {
                int operation = text.operations[at];
                int operand = text.operands[at];
                at++;
                if (operation == Kind.JUMP) {
                    at = operand;
                } else if (operation == Kind.JUMP_UNLESS) {
                    at = pop() == 0 ? operand : at;
                } else if (operation == Kind.NUMBER) {
                    push(operand);
                } else if (operation == Kind.FREE_PAGES) {
                    push(Integer.bitCount(heap.freePages()));
                } else if (operation >= Kind.CLOCK && operation <= Kind.FIELDS_MADE) {
                    push(named(operation, heap, subject));
                } else if (isOfOne(operation)) {
                    push(changed(operation, heap, pop()));
                } else {
                    int right = pop();
                    push(joined(operation, pop(), right));
                }
            }
            return pop();
        }

        private static int named(int name, Heap heap, int subject) {
            boolean isPage = subject >= 0 && subject < PAGES;
            switch (name) {
                case Kind.CLOCK:
                    return heap.clock;
                case Kind.PHASE:
                    return heap.phase;
                case Kind.STACK:
                    return heap.stackSize;
                case Kind.LIVES:
                    return isPage ? heap.live[subject] : 0;
                case Kind.WORDS_USED:
                    return isPage ? heap.used[subject] : 0;
                default:
                    return subject;
            }
        }

        private static boolean isOfOne(int operation) {
            return operation == Kind.NEGATE || operation == Kind.NOT || operation == Kind.LIVE
                || operation == Kind.USED;
        }

        private static int changed(int operation, Heap heap, int value) {
            boolean isPage = value >= 0 && value < PAGES;
            switch (operation) {
                case Kind.LIVE:
                    return isPage ? heap.live[value] : 0;
                case Kind.USED:
                    return isPage ? heap.used[value] : 0;
                case Kind.NOT:
                    return 1 - value;
                default:
                    return -value;
            }
        }

        /** What is too great or too small is cut here, at each step. */
        private void push(long value) {
            if (size < TAPE) {
                stack[size] = (int) Math.max(-MOST_VALUE, Math.min(MOST_VALUE, value));
                size++;
            }
        }

        private int pop() {
            if (size < 1) {
                return 0;
            }
            size--;
            return stack[size];
        }

        private static long joined(int operation, int left, int right) {
            switch (operation) {
                case Kind.PLUS:
                    return left + right;
                case Kind.MINUS:
                    return left - right;
                case Kind.TIMES:
                    return (long) left * right;
                case Kind.BY:
                    return right == 0 ? 0 : left / right;
                case Kind.OR:
                    return left | right;
                case Kind.AND:
                    return left & right;
                case Kind.LESS:
                    return left < right ? 1 : 0;
                case Kind.MORE:
                    return left > right ? 1 : 0;
                case Kind.LIKE:
                    return left == right ? 1 : 0;
                case Kind.UNLIKE:
                    return left != right ? 1 : 0;
                case Kind.AT_MOST:
                    return left <= right ? 1 : 0;
                case Kind.AT_LEAST:
                    return left >= right ? 1 : 0;
                default:
                    return 0;
            }
        }
    }
}
