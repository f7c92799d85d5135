import java.util.ArrayList;
import java.util.HashMap;
import java.util.List;
import java.util.Map;
import java.util.TreeMap;
import java.util.TreeSet;

/**
 * The document once more, written slowly and with the whole library, to be held against the class: sets and maps
 * instead of rows, what lives counted anew each time, states copied whole.
 */
public final class PlainModel {
    /** All of part I. */
    private static final class State {
        int[] word = new int[64];
        int[] page = new int[8];
        int[] used = new int[8];
        Integer[] root = new Integer[6];
        TreeMap<Integer, Integer> forward = new TreeMap<>();
        TreeSet<Integer> marked = new TreeSet<>();
        List<Integer> stack = new ArrayList<>();
        Integer makePage = null;
        Integer movePage = null;
        Read[] read = new Read[2];
        List<int[]> book = new ArrayList<>();
        int phase = 0;
        int good = 2;
        int mark = 1;
        int clock = 0;
        int x = 463;

        State() {
            java.util.Arrays.fill(word, -2);
        }

        State twin() {
            State s = new State();
            s.word = word.clone();
            s.page = page.clone();
            s.used = used.clone();
            s.root = root.clone();
            s.forward = new TreeMap<>(forward);
            s.marked = new TreeSet<>(marked);
            s.stack = new ArrayList<>(stack);
            s.makePage = makePage;
            s.movePage = movePage;
            s.read = read.clone();
            s.book = new ArrayList<>(book);
            s.phase = phase;
            s.good = good;
            s.mark = mark;
            s.clock = clock;
            s.x = x;
            return s;
        }
    }

    private record Read(int word, int pointer, int copy) { }

    private record Clause(String kind, int a, int b, int c) { }

    private record Script(List<Clause> clauses, Sum picks, Sum paces) { }

    private interface Sum {
        long of(State s, int subject);
    }

    private static final class Fault extends Exception {
        private static final long serialVersionUID = 1L;
        final int what;
        final int place;

        Fault(int what, int place) {
            this.what = what;
            this.place = place;
        }
    }

    private static final class NoRoom extends Exception {
        private static final long serialVersionUID = 1L;
    }

    /** All that an image has. */
    private record Image(State s, List<State> steps, List<Script> texts, int ruling, List<int[]> said) { }

    private State s = new State();
    private List<State> steps = new ArrayList<>();
    private List<Script> texts = new ArrayList<>();
    private int ruling = -1;
    private List<int[]> said = new ArrayList<>();
    private StringBuilder tape = new StringBuilder();
    private int[] fault = {-1, -1};
    private Image image = shot();

    private Image shot() {
        List<State> twins = new ArrayList<>();
        for (State step : steps) {
            twins.add(step.twin());
        }
        return new Image(s.twin(), twins, new ArrayList<>(texts), ruling, new ArrayList<>(said));
    }

    // ---- what part I does

    private static int size(State s, int address) {
        return s.word[address] - 1000 + 1;
    }

    private static boolean head(State s, int address) {
        return s.word[address] >= 1000;
    }

    private static int live(State s, int page) {
        int words = 0;
        for (int address : s.marked) {
            if (address / 8 == page && head(s, address)) {
                words += size(s, address);
            }
        }
        return words;
    }

    private static int where(State s, int pointer) {
        int colour = pointer / 64;
        int address = pointer % 64;
        if (colour == s.good || colour == 2) {
            return address;
        }
        return s.forward.getOrDefault(address, address);
    }

    private static void write(State s, int kind, int what) {
        s.book.add(new int[] {s.clock, kind, what});
        if (s.book.size() > 25) {
            s.book.remove(0);
        }
    }

    private static int giveOut(State s, boolean make, int words) throws NoRoom {
        Integer on = make ? s.makePage : s.movePage;
        if (on == null || 8 - s.used[on] < words) {
            on = null;
            for (int p = 7; p >= 0; p--) {
                on = s.page[p] == 0 ? Integer.valueOf(p) : on;
            }
            if (on == null) {
                throw new NoRoom();
            }
            s.page[on] = 1;
            if (make) {
                s.makePage = on;
            } else {
                s.movePage = on;
            }
        }
        s.used[on] += words;
        return on * 8 + s.used[on] - words;
    }

    private static boolean movedFirst(State s, int pointer) {
        if (pointer < 0 || pointer / 64 == s.good || s.phase != 2) {
            return false;
        }
        int address = where(s, pointer);
        return s.page[address / 8] == 2 && !s.forward.containsKey(address);
    }

    private static int copyOut(State s, int address) throws NoRoom {
        int words = size(s, address);
        int to = giveOut(s, false, words);
        for (int i = 0; i < words; i++) {
            s.word[to + i] = s.word[address + i];
        }
        return to;
    }

    private static void tell(State s, int old, int to) {
        s.forward.put(old, to);
        s.marked.add(to);
        write(s, 4, old);
    }

    private static int mended(State s, int pointer) throws NoRoom {
        if (pointer < 0 || pointer / 64 == s.good) {
            return pointer;
        }
        int to = where(s, pointer);
        if (s.phase == 1 && s.marked.add(to)) {
            s.stack.add(to);
        }
        if (movedFirst(s, pointer)) {
            int old = to;
            to = copyOut(s, old);
            tell(s, old, to);
        }
        return s.good * 64 + to;
    }

    private static void mendRoots(State s) throws NoRoom {
        for (int r = 0; r < 6; r++) {
            if (s.root[r] != null) {
                s.root[r] = mended(s, s.root[r]);
            }
        }
    }

    private static void mendWord(State s, int word, int to) {
        if (s.word[word] != to) {
            s.word[word] = to;
            write(s, 5, word);
        }
    }

    private static boolean nobody(State s) {
        return s.read[0] == null && s.read[1] == null;
    }

    /** The word of a field of a root's object, or -1. */
    private static int wordOf(State s, int root, int field) {
        if (root < 0 || root > 5 || s.root[root] == null) {
            return -1;
        }
        int address = s.root[root] % 64;
        int fields = s.word[address] - 1000;
        return field >= 0 && field < fields ? address + 1 + field : -1;
    }

    private static int made(State s, int root, int fields) throws NoRoom {
        int address = giveOut(s, true, fields + 1);
        s.word[address] = 1000 + fields;
        for (int i = 1; i <= fields; i++) {
            s.word[address + i] = -1;
        }
        s.root[root] = s.good * 64 + address;
        if (s.phase > 0) {
            s.marked.add(address);
        }
        write(s, 0, address);
        return address;
    }

    private static int loaded(State s, int into, int from, int field) {
        int word = wordOf(s, from, field);
        if (word < 0) {
            return -2;
        }
        try {
            int pointer = mended(s, s.word[word]);
            mendWord(s, word, pointer);
            s.root[into] = pointer < 0 ? null : pointer;
            return pointer;
        } catch (NoRoom none) {
            return -2;
        }
    }

    private static boolean stored(State s, int root, int field, int value) {
        int word = wordOf(s, root, field);
        if (word < 0) {
            return false;
        }
        s.word[word] = s.root[value] == null ? -1 : s.root[value];
        return true;
    }

    private static int finished(State s, int thread, int into) {
        Read read = s.read[thread];
        s.read[thread] = null;
        if (read.copy >= 0) {
            if (movedFirst(s, read.pointer)) {
                tell(s, where(s, read.pointer), read.copy);
            } else {
                int words = size(s, read.copy);
                int p = read.copy / 8;
                if (p * 8 + s.used[p] == read.copy + words) {
                    s.used[p] -= words;
                    for (int i = 0; i < words; i++) {
                        s.word[read.copy + i] = -2;
                    }
                }
            }
        }
        int pointer;
        try {
            pointer = mended(s, read.pointer);
        } catch (NoRoom none) {
            throw new IllegalStateException("a read that was begun can't be finished");
        }
        if (s.word[read.word] == read.pointer) {
            mendWord(s, read.word, pointer);
        }
        s.root[into] = pointer < 0 ? null : pointer;
        return pointer;
    }

    private static boolean beginsMarking(State s) {
        if (s.phase != 0 || !nobody(s)) {
            return false;
        }
        s.phase = 1;
        s.mark = s.mark == 0 ? 1 : 0;
        s.good = s.mark;
        s.marked.clear();
        s.stack.clear();
        write(s, 1, s.good);
        try {
            mendRoots(s);
        } catch (NoRoom none) {
            throw new IllegalStateException("marking needs no room");
        }
        return true;
    }

    private static void free(State s, int p) {
        s.page[p] = 0;
        s.used[p] = 0;
        for (int address = p * 8; address < p * 8 + 8; address++) {
            s.word[address] = -2;
            s.marked.remove(address);
        }
        write(s, 3, p);
    }

    private static List<Integer> othersInUse(State s) {
        List<Integer> pages = new ArrayList<>();
        for (int p = 0; p < 8; p++) {
            boolean given = s.makePage != null && s.makePage == p || s.movePage != null && s.movePage == p;
            if (s.page[p] == 1 && !given) {
                pages.add(p);
            }
        }
        return pages;
    }

    private static int freeCount(State s) {
        return Integer.bitCount(freeBits(s));
    }

    private static int freeBits(State s) {
        int bits = 0;
        for (int p = 0; p < 8; p++) {
            bits += s.page[p] == 0 ? 1 << p : 0;
        }
        return bits;
    }

    private static int chosen(State s, Script law) {
        if (s.phase != 1 || !s.stack.isEmpty() || !nobody(s)) {
            return -1;
        }
        s.forward.clear();
        for (int p : othersInUse(s)) {
            if (live(s, p) == 0) {
                free(s, p);
            }
        }
        s.good = 2;
        s.phase = 2;
        List<Integer> pages = othersInUse(s);
        pages.sort((p, q) -> live(s, p) != live(s, q) ? live(s, p) - live(s, q) : p - q);
        int together = 0;
        int bits = 0;
        int room = 5 * freeCount(s);
        for (int p : pages) {
            if (picks(s, law, p) && together + live(s, p) <= room) {
                together += live(s, p);
                bits += 1 << p;
                s.page[p] = 2;
            }
        }
        s.movePage = null;
        write(s, 2, bits);
        try {
            mendRoots(s);
        } catch (NoRoom none) {
            throw new IllegalStateException("roots have room always");
        }
        return Integer.bitCount(bits);
    }

    private static void move(State s) {
        for (int address : s.marked) {
            if (s.page[address / 8] == 2 && !s.forward.containsKey(address)) {
                try {
                    tell(s, address, copyOut(s, address));
                } catch (NoRoom none) {
                    return;
                }
                return;
            }
        }
        if (nobody(s)) {
            for (int p = 0; p < 8; p++) {
                if (s.page[p] == 2) {
                    free(s, p);
                }
            }
            s.phase = 0;
        }
    }

    private static void tick(State s, Script law) {
        if (s.phase == 0) {
            beginsMarking(s);
        } else if (s.phase == 2) {
            move(s);
        } else if (s.stack.isEmpty()) {
            chosen(s, law);
        } else {
            int address = s.stack.remove(s.stack.size() - 1);
            int fields = s.word[address] - 1000;
            for (int i = 1; i <= fields; i++) {
                try {
                    mendWord(s, address + i, mended(s, s.word[address + i]));
                } catch (NoRoom none) {
                    throw new IllegalStateException("marking needs no room");
                }
            }
        }
        s.clock++;
    }

    // ---- laws

    private Script law() {
        return ruling < 0 ? null : texts.get(ruling);
    }

    private static boolean picks(State s, Script law, int page) {
        if (law == null || law.picks == null) {
            return live(s, page) <= s.used[page] / 2.0;
        }
        return law.picks.of(s, page) > 0;
    }

    private static int pace(State s, Script law, int fields) {
        if (law == null || law.paces == null) {
            return 0;
        }
        return (int) Math.min(9, Math.max(0, law.paces.of(s, fields)));
    }

    private static long cut(long value) {
        return Math.min(1000000, Math.max(-1000000, value));
    }

    private static long at(int[] row, long page) {
        return page < 0 || page > 7 ? 0 : row[(int) page];
    }

    /** Reads token by token from the text itself. */
    private static final class Parser {
        final String t;
        int place;
        String token;
        boolean picks;

        Parser(String t) throws Fault {
            this.t = t;
            place = 0;
            read(0);
        }

        private void read(int from) {
            int i = from;
            while (i < t.length() && (t.charAt(i) == ' ' || t.charAt(i) == '\n')) {
                i++;
            }
            place = i;
            String rest = t.substring(i);
            token = "";
            for (String form : new String[] {"[a-zA-Z]+", "[0-9]+", "<=|>=|[-<>=#+*/();]", "(?s)."}) {
                java.util.regex.Matcher m = java.util.regex.Pattern.compile("^(?:" + form + ")").matcher(rest);
                if (m.find()) {
                    token = m.group();
                    return;
                }
            }
        }

        void pass() {
            read(place + token.length());
        }

        Fault wrong(int what) {
            return new Fault(what, place);
        }

        void want(String word) throws Fault {
            if (!token.equals(word)) {
                throw wrong(1);
            }
            pass();
        }

        int number(int least, int most) throws Fault {
            if (!token.matches("[0-9]+")) {
                throw wrong(1);
            }
            java.math.BigInteger n = new java.math.BigInteger(token);
            if (n.bitLength() > 20 || n.intValue() < least || n.intValue() > most) {
                throw wrong(2);
            }
            pass();
            return n.intValue();
        }

        Script script() throws Fault {
            List<Clause> clauses = new ArrayList<>();
            Sum picksLaw = null;
            Sum pacesLaw = null;
            while (!token.isEmpty()) {
                String kind = token;
                if (!kind.matches("picks|paces|make|load|store|drop|day")) {
                    throw wrong(1);
                }
                if (kind.equals("picks") && picksLaw != null || kind.equals("paces") && pacesLaw != null) {
                    throw wrong(4);
                }
                if (clauses.size() == 24) {
                    throw wrong(6);
                }
                pass();
                int a = 0;
                int b = 0;
                int c = 0;
                if (kind.startsWith("p")) {
                    picks = kind.equals("picks");
                    Sum sum = sum(0);
                    picksLaw = picks ? sum : picksLaw;
                    pacesLaw = picks ? pacesLaw : sum;
                } else if (kind.equals("day")) {
                    a = number(1, 60);
                } else {
                    a = number(0, 5);
                    if (kind.equals("make")) {
                        want("of");
                        b = number(0, 3);
                    } else if (!kind.equals("drop")) {
                        want(kind.equals("load") ? "from" : "to");
                        b = number(0, 5);
                        want("of");
                        c = number(0, 2);
                    }
                }
                want(";");
                clauses.add(new Clause(kind, a, b, c));
            }
            return new Script(clauses, picksLaw, pacesLaw);
        }

        Sum sum(int open) throws Fault {
            Sum left = product(open);
            while (token.equals("+") || token.equals("-")) {
                int sign = token.equals("+") ? 1 : -1;
                pass();
                Sum a = left;
                Sum b = product(open);
                left = (s, n) -> cut(a.of(s, n) + sign * b.of(s, n));
            }
            return left;
        }

        Sum product(int open) throws Fault {
            Sum left = one(open);
            while (token.equals("*") || token.equals("/")) {
                boolean times = token.equals("*");
                pass();
                Sum a = left;
                Sum b = one(open);
                left = times ? (s, n) -> cut(a.of(s, n) * b.of(s, n))
                    : (s, n) -> b.of(s, n) == 0 ? 0 : cut(a.of(s, n) / b.of(s, n));
            }
            return left;
        }

        void open(int open) throws Fault {
            if (open == 8) {
                throw wrong(3);
            }
            pass();
        }

        Sum one(int open) throws Fault {
            String word = token;
            if (word.matches("[0-9]+")) {
                int n = number(0, 9999);
                return (s, x) -> n;
            }
            switch (word) {
                case "(": {
                    open(open);
                    Sum inner = sum(open + 1);
                    want(")");
                    return inner;
                }
                case "-": {
                    open(open);
                    Sum inner = one(open + 1);
                    return (s, x) -> -inner.of(s, x);
                }
                case "live": {
                    open(open);
                    Sum inner = one(open + 1);
                    return (s, x) -> {
                        long p = inner.of(s, x);
                        return p < 0 || p > 7 ? 0 : live(s, (int) p);
                    };
                }
                case "used": {
                    open(open);
                    Sum inner = one(open + 1);
                    return (s, x) -> at(s.used, inner.of(s, x));
                }
                case "if": {
                    open(open);
                    Sum test = either(open + 1);
                    want("then");
                    Sum yes = sum(open + 1);
                    want("else");
                    Sum no = sum(open + 1);
                    want("end");
                    return (s, x) -> test.of(s, x) != 0 ? yes.of(s, x) : no.of(s, x);
                }
                default:
                    return name(word);
            }
        }

        Sum name(String word) throws Fault {
            Map<String, Sum> names = new HashMap<>();
            names.put("clock", (s, x) -> s.clock);
            names.put("phase", (s, x) -> s.phase);
            names.put("free", (s, x) -> freeCount(s));
            names.put("stack", (s, x) -> s.stack.size());
            names.put("page", (s, x) -> x);
            names.put("lives", (s, x) -> live(s, x));
            names.put("words", (s, x) -> s.used[x]);
            names.put("fields", (s, x) -> x);
            Sum sum = names.get(word);
            if (sum == null) {
                throw wrong(1);
            }
            boolean foreign = picks ? word.equals("fields") : word.matches("page|lives|words");
            if (foreign) {
                throw wrong(5);
            }
            pass();
            return sum;
        }

        Sum either(int open) throws Fault {
            Sum left = both(open);
            while (token.equals("or")) {
                pass();
                Sum a = left;
                Sum b = both(open);
                left = (s, x) -> a.of(s, x) + b.of(s, x) > 0 ? 1 : 0;
            }
            return left;
        }

        Sum both(int open) throws Fault {
            Sum left = ask(open);
            while (token.equals("and")) {
                pass();
                Sum a = left;
                Sum b = ask(open);
                left = (s, x) -> a.of(s, x) * b.of(s, x);
            }
            return left;
        }

        Sum ask(int open) throws Fault {
            if (token.equals("not")) {
                open(open);
                Sum inner = ask(open + 1);
                return (s, x) -> inner.of(s, x) == 0 ? 1 : 0;
            }
            Sum a = sum(open);
            String how = token;
            if (!how.matches("<|<=|>|>=|=|#")) {
                throw wrong(1);
            }
            pass();
            Sum b = sum(open);
            return (s, x) -> {
                int order = Long.compare(a.of(s, x), b.of(s, x));
                boolean holds = how.equals("#") ? order != 0
                    : how.contains("=") && order == 0 || how.contains("<") && order < 0
                    || how.contains(">") && order > 0;
                return holds ? 1 : 0;
            };
        }
    }

    // ---- what part III asks

    private TreeMap<Integer, Integer> far(State s, int without) {
        TreeMap<Integer, Integer> far = new TreeMap<>();
        for (Integer pointer : s.root) {
            if (pointer != null && head(s, where(s, pointer)) && where(s, pointer) != without) {
                far.put(where(s, pointer), 0);
            }
        }
        for (boolean more = true; more;) {
            more = false;
            for (int address : new ArrayList<>(far.keySet())) {
                for (int i = 1; i < size(s, address); i++) {
                    int pointer = s.word[address + i];
                    if (pointer >= 0 && head(s, where(s, pointer)) && where(s, pointer) != without) {
                        int loads = far.get(address) + 1;
                        int to = where(s, pointer);
                        if (far.getOrDefault(to, 1000) > loads) {
                            far.put(to, loads);
                            more = true;
                        }
                    }
                }
            }
        }
        return far;
    }

    private TreeMap<Integer, Integer> far() {
        return far(s, -1);
    }

    private int words(TreeMap<Integer, Integer> far) {
        int words = 0;
        for (int address : far.keySet()) {
            words += size(s, address);
        }
        return words;
    }

    private List<Integer> pointers() {
        List<Integer> all = new ArrayList<>();
        for (Integer pointer : s.root) {
            all.add(pointer == null ? -1 : pointer);
        }
        for (int address : far().keySet()) {
            for (int i = 1; i < size(s, address); i++) {
                all.add(s.word[address + i]);
            }
        }
        all.removeIf(pointer -> pointer < 0);
        return all;
    }

    private static int fewest(List<Integer> count, Map<List<Integer>, Integer> known) {
        if (count.stream().allMatch(n -> n == 0)) {
            return 0;
        }
        Integer seen = known.get(count);
        if (seen != null) {
            return seen;
        }
        int best = 99;
        for (int d = 0; d <= Math.min(2, count.get(3)); d++) {
            for (int c = 0; c <= Math.min((8 - 4 * d) / 3, count.get(2)); c++) {
                for (int b = 0; b <= Math.min((8 - 4 * d - 3 * c) / 2, count.get(1)); b++) {
                    int a = Math.min(8 - 4 * d - 3 * c - 2 * b, count.get(0));
                    if (a + b + c + d > 0) {
                        List<Integer> rest = List.of(count.get(0) - a, count.get(1) - b, count.get(2) - c,
                            count.get(3) - d);
                        best = Math.min(best, 1 + fewest(rest, known));
                    }
                }
            }
        }
        known.put(count, best);
        return best;
    }

    private static final Map<List<Integer>, Integer> KNOWN = new HashMap<>();

    /** By trying all ways: the fewest pages for so many objects of 1, 2, 3 and 4 words. */
    static int fewestPages(int ones, int twos, int threes, int fours) {
        return fewest(List.of(ones, twos, threes, fours), KNOWN);
    }

    // ---- the face

    private void step() {
        steps.add(s.twin());
        if (steps.size() > 30) {
            steps.remove(0);
        }
    }

    /** Steps that turn out not to be possible leave all as it was. */
    private <T> T tried(java.util.function.Supplier<T> deed, T cannot) {
        State before = s.twin();
        T answer = deed.get();
        if (answer.equals(cannot)) {
            s = before;
        } else {
            steps.add(before);
            if (steps.size() > 30) {
                steps.remove(0);
            }
        }
        return answer;
    }

    public int feed(int a, int b, int c, int d, int e) {
        if (tape.length() > 280) {
            return -1;
        }
        for (int four : new int[] {a, b, c, d, e}) {
            for (int i = 3; i >= 0; i--) {
                tape.append((char) (four >> 8 * i & 255));
            }
        }
        return tape.length();
    }

    public int end(int n) {
        if (n < 0 || n > tape.length()) {
            return -1;
        }
        tape.setLength(n);
        return n;
    }

    public int text() {
        if (texts.size() == 4) {
            return -1;
        }
        String read = tape.toString();
        tape.setLength(0);
        try {
            texts.add(new Parser(read).script());
            fault = new int[] {0, -1};
            return texts.size() - 1;
        } catch (Fault found) {
            fault = new int[] {found.what, found.place};
            return -1;
        }
    }

    public int fault(int what) {
        return what == 0 || what == 1 ? fault[what] : -1;
    }

    public boolean by(int text) {
        boolean can = text == -1 || text >= 0 && text < texts.size();
        ruling = can ? text : ruling;
        return can;
    }

    public int make(int root, int fields) {
        if (root < 0 || root > 5 || fields < 0 || fields > 3) {
            return -1;
        }
        int pace = pace(s, law(), fields);
        return tried(() -> {
            try {
                int address = made(s, root, fields);
                for (int i = 0; i < pace && s.clock < 9999; i++) {
                    tick(s, law());
                }
                return address;
            } catch (NoRoom none) {
                return -1;
            }
        }, -1);
    }

    public int load(int into, int from, int field) {
        return into < 0 || into > 5 ? -2 : tried(() -> loaded(s, into, from, field), -2);
    }

    public boolean store(int root, int field, int value) {
        return value >= 0 && value <= 5 && tried(() -> stored(s, root, field, value), false);
    }

    public boolean drop(int root) {
        if (root < 0 || root > 5 || s.root[root] == null) {
            return false;
        }
        step();
        s.root[root] = null;
        return true;
    }

    public boolean copy(int into, int from) {
        if (Math.min(into, from) < 0 || Math.max(into, from) > 5 || into == from) {
            return false;
        }
        step();
        s.root[into] = s.root[from];
        return true;
    }

    public int begin(int thread, int from, int field) {
        if (thread < 0 || thread > 1 || s.read[thread] != null || wordOf(s, from, field) < 0) {
            return -1;
        }
        return tried(() -> {
            int word = wordOf(s, from, field);
            int pointer = s.word[word];
            try {
                int copy = movedFirst(s, pointer) ? copyOut(s, where(s, pointer)) : -1;
                s.read[thread] = new Read(word, pointer, copy);
                return copy < 0 ? 0 : 1;
            } catch (NoRoom none) {
                return -1;
            }
        }, -1);
    }

    public int finish(int thread, int into) {
        if (thread < 0 || thread > 1 || s.read[thread] == null || into < 0 || into > 5) {
            return -2;
        }
        step();
        return finished(s, thread, into);
    }

    public boolean start() {
        return tried(() -> beginsMarking(s), false);
    }

    public int choose() {
        return tried(() -> chosen(s, law()), -1);
    }

    private void tickStep() {
        step();
        tick(s, law());
    }

    public int day(int n) {
        if (n < 1 || n > 60 || s.clock > 9999 - n) {
            return -1;
        }
        for (int i = 0; i < n; i++) {
            tickStep();
        }
        return s.phase;
    }

    public int played(int text) {
        if (text < 0 || text >= texts.size()) {
            return -2;
        }
        int number = 0;
        for (Clause c : texts.get(text).clauses) {
            boolean can = true;
            if (c.kind.equals("make")) {
                can = make(c.a, c.b) >= 0;
            } else if (c.kind.equals("load")) {
                can = load(c.a, c.b, c.c) > -2;
            } else if (c.kind.equals("store")) {
                can = store(c.b, c.c, c.a);
            } else if (c.kind.equals("drop")) {
                can = drop(c.a);
            } else if (c.kind.equals("day")) {
                for (int i = 0; i < c.a && can; i++) {
                    can = s.clock < 9999;
                    if (can) {
                        tickStep();
                    }
                }
            }
            if (!can) {
                return number;
            }
            number++;
        }
        return -1;
    }

    public int years(int seed, int n) {
        if (seed < 0 || seed > 9999 || n < 1 || n > 40) {
            return -1;
        }
        step();
        s.x = seed * 2 + 463;
        for (int i = 0; i < n; i++) {
            int x = s.x;
            s.x = (x * 733 + 599) % 31063;
            int kind = x % 6;
            if (kind == 0) {
                try {
                    made(s, x % 5, x / 6 % 4);
                } catch (NoRoom none) {
                    continue;
                }
            } else if (kind == 1) {
                loaded(s, 4 + x % 2, x % 4, x / 6 % 3);
            } else if (kind == 2) {
                stored(s, x % 4, x % 3, x / 6 % 6);
            } else if (kind == 3) {
                if (x % 4 == 1) {
                    s.root[x / 6 % 6] = null;
                }
            } else if (s.clock < 9999) {
                tick(s, law());
            }
        }
        return s.clock;
    }

    public int undo() {
        if (steps.isEmpty()) {
            return -1;
        }
        s = steps.remove(steps.size() - 1);
        return steps.size();
    }

    public int root(int root) {
        if (root < 0 || root > 5) {
            return -2;
        }
        return s.root[root] == null ? -1 : s.root[root];
    }

    public int at(int address) {
        return address < 0 || address > 63 ? -3 : s.word[address];
    }

    public int forward(int address) {
        return s.forward.getOrDefault(address, -1);
    }

    public int page(int page, int what) {
        if (page < 0 || page > 7 || what < 0 || what > 3) {
            return -1;
        }
        int[] all = {s.page[page], s.used[page], live(s, page), picks(s, law(), page) ? 1 : 0};
        return all[what];
    }

    public int is(int what) {
        int made = s.makePage == null ? -1 : s.makePage;
        int moved = s.movePage == null ? -1 : s.movePage;
        int[] all = {s.clock, s.x, s.phase, s.good, s.stack.size(), made, moved};
        return what < 0 || what > 6 ? -2 : all[what];
    }

    public boolean marked(int address) {
        return s.marked.contains(address);
    }

    public int book(int i, int what) {
        if (i == -1) {
            return s.book.size();
        }
        return i < 0 || i >= s.book.size() || what < 0 || what > 2 ? -2 : s.book.get(i)[what];
    }

    public int foretold(int n, int what) {
        if (n < 1 || n > 60 || what < 0 || what > 1) {
            return -1;
        }
        State then = s.twin();
        for (int i = 0; i < n && then.clock < 9999; i++) {
            tick(then, law());
        }
        return what == 0 ? then.phase : freeBits(then);
    }

    public int paces(int fields) {
        return fields < 0 || fields > 3 ? -1 : pace(s, law(), fields);
    }

    public int current(int pointer) {
        return pointer < 0 || pointer > 191 ? -1 : where(s, pointer);
    }

    public boolean reached(int address) {
        return far().containsKey(address);
    }

    public int reach(boolean words) {
        return words ? words(far()) : far().size();
    }

    public int dead() {
        int words = 0;
        for (int p = 0; p < 8; p++) {
            words += s.page[p] == 0 ? 0 : gaps(p);
        }
        return words;
    }

    public int stale() {
        return (int) pointers().stream().filter(pointer -> pointer / 64 != s.good).count();
    }

    public boolean safe() {
        return pointers().stream().allMatch(pointer -> {
            int to = where(s, pointer);
            return head(s, to) && s.page[to / 8] != 0;
        });
    }

    public int far(int address) {
        return far().getOrDefault(address, -1);
    }

    public int retained(int address) {
        return far().containsKey(address) ? words(far()) - words(far(s, address)) : -1;
    }

    public int pack() {
        int[] count = new int[4];
        for (int address : far().keySet()) {
            count[size(s, address) - 1]++;
        }
        return fewestPages(count[0], count[1], count[2], count[3]);
    }

    public int till() {
        State then = s.twin();
        for (int ticks = 0; ticks < 200; ticks++) {
            if (then.phase == 0) {
                return ticks;
            }
            tick(then, law());
        }
        return then.phase == 0 ? 200 : -1;
    }

    public int alike() {
        if (s.read[0] == null || s.read[1] == null) {
            return -1;
        }
        boolean agree = true;
        for (int[] order : new int[][] {{0, 1}, {1, 0}}) {
            State then = s.twin();
            int[] pointer = new int[2];
            for (int thread : order) {
                pointer[thread] = finished(then, thread, thread);
            }
            for (int thread : order) {
                int word = then.word[s.read[thread].word];
                int one = pointer[thread] < 0 ? -1 : where(then, pointer[thread]);
                agree &= one == (word < 0 ? -1 : where(then, word));
            }
        }
        return agree ? 1 : 0;
    }

    public int poorest() {
        int best = -1;
        for (int p = 0; p < 8; p++) {
            if (s.page[p] == 1 && (best < 0 || live(s, p) < live(s, best))) {
                best = p;
            }
        }
        return best;
    }

    public int gaps(int page) {
        if (page < 0 || page > 7) {
            return -1;
        }
        TreeSet<Integer> gaps = new TreeSet<>();
        for (int i = 0; i < s.used[page]; i++) {
            gaps.add(page * 8 + i);
        }
        for (int address : far().keySet()) {
            for (int i = 0; i < size(s, address); i++) {
                gaps.remove(address + i);
            }
        }
        return gaps.size();
    }

    public int shape(int address, int field) {
        if (!reached(address) || field < 0 || field >= size(s, address) - 1) {
            return -1;
        }
        int pointer = s.word[address + 1 + field];
        return pointer < 0 ? -1 : where(s, pointer);
    }

    public boolean same(int a, int b) {
        if (!reached(a) || !reached(b) || size(s, a) != size(s, b)) {
            return false;
        }
        return shape(a, 0) == shape(b, 0) && shape(a, 1) == shape(b, 1) && shape(a, 2) == shape(b, 2);
    }

    public int chain(int address) {
        if (!reached(address)) {
            return -1;
        }
        TreeSet<Integer> in = new TreeSet<>();
        int at = address;
        while (at >= 0 && in.add(at)) {
            at = shape(at, 0);
        }
        return in.size();
    }

    public int said(int page, int picks) {
        if (page == -1) {
            said.clear();
            return 0;
        }
        if (page < 0 || page > 7 || picks < 0 || picks > 1 || said.size() == 8) {
            return -2;
        }
        said.add(new int[] {page, picks});
        return said.size();
    }

    public int whose() {
        int bits = 0;
        for (int t = 0; t < texts.size(); t++) {
            Script script = texts.get(t);
            boolean all = said.stream().allMatch(one -> picks(s, script, one[0]) == (one[1] == 1));
            bits += all ? 1 << t : 0;
        }
        return bits;
    }

    public int ledger(int what) {
        return what < 0 || what > 5 ? -2 : (int) s.book.stream().filter(line -> line[1] == what).count();
    }

    public int image() {
        image = shot();
        return s.clock;
    }

    public int back() {
        s = image.s.twin();
        steps = new ArrayList<>();
        for (State step : image.steps) {
            steps.add(step.twin());
        }
        texts = new ArrayList<>(image.texts);
        ruling = image.ruling;
        said = new ArrayList<>(image.said);
        return s.clock;
    }

    public int about(int what) {
        int begun = (s.read[0] == null ? 0 : 1) + (s.read[1] == null ? 0 : 2);
        int[] all = {texts.size(), ruling, steps.size(), begun, said.size(), tape.length()};
        return what < 0 || what > 5 ? -2 : all[what];
    }
}
