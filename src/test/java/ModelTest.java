import java.lang.reflect.Method;
import java.util.ArrayList;
import java.util.List;
import java.util.Random;
import java.util.TreeMap;

/** Drawn runs of calls, of which the class and the plain model must answer every one alike. */
public final class ModelTest {
    private static final int RUNS = 600;
    private static final int CALLS = 300;

    private static final TreeMap<String, Method> MODEL = new TreeMap<>();
    private static final TreeMap<String, Method> HEAP = new TreeMap<>();

    private final Random draw;
    private final ColouredHeap heap = new ColouredHeap();
    private final PlainModel model = new PlainModel();
    private final List<String> calls = new ArrayList<>();
    private boolean wrong = false;

    private ModelTest(long seed) {
        draw = new Random(seed);
    }

    public static void main(String[] args) throws Exception {
        for (Method method : ColouredHeap.class.getDeclaredMethods()) {
            if (java.lang.reflect.Modifier.isPublic(method.getModifiers())) {
                HEAP.put(method.getName(), method);
                MODEL.put(method.getName(), PlainModel.class.getMethod(method.getName(), method.getParameterTypes()));
            }
        }
        int runs = args.length > 0 ? Integer.parseInt(args[0]) : RUNS;
        int first = args.length > 1 ? Integer.parseInt(args[1]) : 0;
        Check check = new Check("ModelTest");
        TreeMap<String, Integer> seen = new TreeMap<>();
        for (int i = 0; i < runs && check.wrong() < 3; i++) {
            ModelTest run = new ModelTest(first + i);
            run.play(seen);
            if (run.wrong) {
                System.out.println("run " + (first + i) + ": " + String.join("; ", run.calls));
            }
            check.due("run " + (first + i), false, run.wrong);
        }
        if (args.length > 2) {
            seen.forEach((what, times) -> System.out.println(times + " " + what));
        }
        check.close();
    }

    private void play(TreeMap<String, Integer> seen) throws Exception {
        boolean threads = draw.nextInt(3) > 0;
        boolean texts = draw.nextInt(2) > 0;
        if (draw.nextInt(12) == 0) {
            runTheClockOut();
        } else if (draw.nextInt(3) > 0) {
            tell(draw.nextBoolean() ? "picks 1;" : "picks 9-lives;");
            ask("by", 0);
            ask("image");
        }
        for (int i = 0; i < CALLS && !wrong; i++) {
            if (draw.nextInt(30) == 0) {
                turnToMoving();
            }
            deed(threads, texts);
            if (draw.nextInt(4) == 0) {
                question();
            }
            if (draw.nextInt(25) == 0) {
                lookAtAll();
            }
        }
        for (String call : calls) {
            String name = call.substring(0, call.indexOf('('));
            seen.merge(name + call.substring(call.indexOf(" =")), 1, Integer::sum);
        }
    }

    private int ask(String name, Object... args) throws Exception {
        Object got = HEAP.get(name).invoke(heap, args);
        Object want = MODEL.get(name).invoke(model, args);
        String list = java.util.Arrays.toString(args);
        String call = name + "(" + list.substring(1, list.length() - 1) + ") = " + got;
        calls.add(call);
        if (!want.equals(got) && !wrong) {
            wrong = true;
            calls.add("DUE " + want);
        }
        return got instanceof Integer answer ? answer : 0;
    }

    private int upTo(int n) {
        return draw.nextInt(30) == 0 ? draw.nextInt(2) == 0 ? -1 - draw.nextInt(2) : n + draw.nextInt(2)
            : draw.nextInt(n);
    }

    /** Mostly a root that has a field, and that field's number, so that most deeds can be done. */
    private int[] rootWithField() {
        for (int tries = 0; tries < 12 && draw.nextInt(10) > 0; tries++) {
            int root = draw.nextInt(6);
            int fields = heap.root(root) < 0 ? 0 : heap.at(heap.root(root) % 64) - 1000;
            if (fields > 0) {
                return new int[] {root, draw.nextInt(fields)};
            }
        }
        return new int[] {upTo(6), upTo(3)};
    }

    private void deed(boolean threads, boolean texts) throws Exception {
        int which = draw.nextInt(100);
        int[] from = rootWithField();
        if (which < 14) {
            ask("make", upTo(6), upTo(4));
        } else if (which < 34) {
            ask("store", from[0], from[1], upTo(6));
        } else if (which < 44) {
            ask("load", upTo(6), from[0], from[1]);
        } else if (which < 49) {
            ask("drop", upTo(6));
        } else if (which < 52) {
            ask("copy", upTo(6), upTo(6));
        } else if (which < 60) {
            if (threads) {
                ask("begin", upTo(2), from[0], from[1]);
            }
        } else if (which < 64) {
            ask("finish", upTo(2), upTo(6));
        } else if (which < 68) {
            ask("start");
        } else if (which < 73) {
            ask("choose");
        } else if (which < 85) {
            ask("day", draw.nextInt(20) == 0 ? draw.nextInt(64) - 1 : 1 + draw.nextInt(4));
        } else if (which < 88) {
            for (int i = draw.nextInt(6) == 0 ? draw.nextInt(32) : 1; i > 0; i--) {
                ask("undo");
            }
        } else if (which < 90) {
            ask("years", draw.nextInt(20) == 0 ? -1 : draw.nextInt(10001), draw.nextInt(42));
        } else if (which < 91) {
            ask(draw.nextInt(4) == 0 ? "image" : "back");
        } else if (which < 93) {
            ask("said", upTo(8), upTo(2));
        } else if (texts) {
            tellOrPlay();
        }
    }

    private void tellOrPlay() throws Exception {
        int which = draw.nextInt(4);
        if (which == 0) {
            ask("played", upTo(4));
        } else if (which == 1) {
            ask("by", draw.nextInt(6) - 1);
        } else {
            tell(new TextMaker(draw).text());
        }
    }

    private void tell(String text) throws Exception {
        ask("end", 0);
        StringBuilder filled = new StringBuilder(text);
        while (filled.length() % 20 != 0 || filled.length() == 0) {
            filled.append((char) 0);
        }
        for (int i = 0; i < filled.length(); i += 20) {
            int[] four = new int[5];
            for (int k = 0; k < 20; k++) {
                four[k / 4] = four[k / 4] << 8 | filled.charAt(i + k);
            }
            ask("feed", four[0], four[1], four[2], four[3], four[4]);
        }
        ask("end", text.length());
        int number = ask("text");
        ask("fault", 0);
        ask("fault", 1);
        if (number >= 0) {
            askItsLaws(number);
        }
    }

    private void askItsLaws(int number) throws Exception {
        int ruling = heap.about(1);
        ask("by", number);
        for (int page = 0; page < 8; page++) {
            ask("page", page, 3);
            ask("paces", page);
        }
        if (draw.nextBoolean()) {
            ask("by", ruling);
        }
    }

    private void runTheClockOut() throws Exception {
        tell("day 60;".repeat(24));
        for (int i = 0; i < 6; i++) {
            ask("played", 0);
        }
        for (int i = 0; i < 22; i++) {
            ask("day", 60);
        }
        ask("day", 1 + draw.nextInt(60));
        if (draw.nextBoolean()) {
            ask("back");
        }
    }

    /** Fills pages with objects that hang on few roots, and goes on to where they are chosen, but not yet moved. */
    private void turnToMoving() throws Exception {
        for (int thread = 0; thread < 2; thread++) {
            ask("finish", thread, draw.nextInt(6));
        }
        for (int i = 0; i < 4 && heap.is(2) != 0; i++) {
            ask("day", 10);
        }
        if (draw.nextBoolean()) {
            hangOnOneRoot();
        } else {
            hangOnAnyRoot();
        }
        ask("start");
        for (int i = 0; i < 60 && heap.is(2) == 1; i++) {
            ask("day", 1);
        }
        for (int i = draw.nextInt(4); i > 0; i--) {
            int[] from = rootWithField();
            ask("begin", i % 2, from[0], from[1]);
        }
    }

    private void hangOnAnyRoot() throws Exception {
        int shared = draw.nextInt(6);
        for (int i = draw.nextInt(8); i > 0; i--) {
            ask("make", draw.nextInt(6), draw.nextInt(4));
            int[] from = rootWithField();
            ask("store", from[0], from[1], draw.nextBoolean() ? shared : draw.nextInt(6));
        }
        for (int i = draw.nextInt(4); i > 0; i--) {
            ask("drop", draw.nextInt(6));
        }
    }

    /** The latest object has the one ahead of it in each field; what is made between is dead at once. */
    private void hangOnOneRoot() throws Exception {
        for (int root = 0; root < 5; root++) {
            ask("drop", root);
        }
        for (int i = 3 + draw.nextInt(9); i > 0; i--) {
            int fields = 1 + draw.nextInt(3);
            ask("make", 0, fields);
            for (int field = 0; field < fields; field++) {
                ask("store", 0, field, 5);
            }
            ask("copy", 5, 0);
            ask("make", 1, draw.nextInt(4));
        }
        ask("drop", 0);
        ask("drop", 1);
    }

    private void question() throws Exception {
        switch (draw.nextInt(22)) {
            case 0 -> ask("foretold", draw.nextInt(10) == 0 ? draw.nextInt(63) : 1 + draw.nextInt(12), upTo(2));
            case 1 -> ask("till");
            case 2, 3 -> ask("alike");
            case 4 -> ask("whose");
            case 5 -> ask("pack");
            case 6 -> ask("page", upTo(8), upTo(4));
            case 7 -> ask("retained", upTo(64));
            case 8 -> ask("chain", upTo(64));
            case 9 -> ask("same", upTo(64), upTo(64));
            case 10 -> ask("shape", upTo(64), upTo(3));
            case 11 -> ask("paces", upTo(4));
            case 12 -> ask("current", draw.nextInt(196) - 2);
            case 13 -> ask("ledger", upTo(6));
            case 14 -> ask("book", upTo(25), upTo(3));
            case 15 -> ask("feed", draw.nextInt(), draw.nextInt(), draw.nextInt(), draw.nextInt(), draw.nextInt());
            case 16 -> ask("end", draw.nextInt(302) - 1);
            case 17 -> ask("fault", upTo(2));
            case 18 -> ask("far", upTo(64));
            case 19 -> ask("reached", upTo(64));
            case 20 -> ask("gaps", upTo(8));
            default -> ask("poorest");
        }
    }

    private void lookAtAll() throws Exception {
        for (int address = -1; address <= 64; address++) {
            ask("at", address);
            ask("forward", address);
            ask("marked", address);
            ask("far", address);
            ask("retained", address);
            ask("chain", address);
            ask("shape", address, 0);
            ask("same", address, draw.nextInt(64));
        }
        for (int page = -1; page <= 8; page++) {
            for (int what = -1; what <= 4; what++) {
                ask("page", page, what);
            }
            ask("gaps", page);
        }
        for (int i = -2; i <= 25; i++) {
            for (int what = -1; what <= 3; what++) {
                ask("book", i, what);
            }
        }
        for (int what = -1; what <= 7; what++) {
            ask("is", what);
            ask("about", what);
            ask("root", what);
            ask("ledger", what);
            ask("paces", what);
        }
        for (String name : List.of("dead", "stale", "safe", "pack", "till", "alike", "poorest", "whose")) {
            ask(name);
        }
        ask("reach", true);
        ask("reach", false);
        for (int n = 1; n <= 60; n++) {
            ask("foretold", n, n % 2);
        }
        for (int pointer = -1; pointer <= 192; pointer++) {
            ask("current", pointer);
        }
    }
}
