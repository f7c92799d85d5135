/** Boundary cases of the document's parts II and IV and of promises 2 to 6, 17, 28, 45 and 46. */
public final class EdgesOfTextsTest {
    private static Edges edges;

    public static void main(String[] args) throws Exception {
        edges = new Edges("EdgesOfTextsTest");
        tape();
        texts();
        playing();
        saying();
        tokens();
        sums();
        faults();
        laws();
        edges.close();
    }

    // ---- the tape

    private static void tape() {
        edges.of("Promise 2", "Twenty bytes come behind the tape, the highest of a first: how many it has.",
            EdgesOfTextsTest::twentyBytes);
        edges.of("Promise 2", "NONE, and none come, if there would be more than 300.",
            EdgesOfTextsTest::moreThan300);
        edges.of("Promise 3", "The tape has its first n bytes alone: n.", EdgesOfTextsTest::endWithin);
        edges.of("Promise 3", "NONE, and nothing is done, if it has not so many, or n is below 0.",
            EdgesOfTextsTest::endBeyond);
    }

    private static int word(String four) {
        return four.charAt(0) << 24 | four.charAt(1) << 16 | four.charAt(2) << 8 | four.charAt(3);
    }

    private static void twentyBytes() {
        ColouredHeap heap = new ColouredHeap();
        edges.due("the first twenty", 20,
            heap.feed(word("drop"), word(" 0;d"), word("rop "), word("1;da"), word("y 9;")));
        edges.due("all twenty in their order", 0, heap.text());
        edges.due("behind a tape that was read", 20, heap.feed(0, 0, 0, 0, 0));
        heap.end(1);
        edges.due("behind a tape that was cut", 21, heap.feed(-1, -1, -1, -1, -1));
        ColouredHeap high = new ColouredHeap();
        high.feed(word("drop"), word(" 0;;"), -1, Integer.MIN_VALUE, Integer.MAX_VALUE);
        high.end(7);
        edges.due("a byte each", 0, high.text());
    }

    private static ColouredHeap fullTape() {
        ColouredHeap heap = new ColouredHeap();
        Runs.tape(heap, " ".repeat(293) + "drop 0;");
        return heap;
    }

    private static void moreThan300() {
        ColouredHeap heap = new ColouredHeap();
        for (int i = 1; i <= 15; i++) {
            edges.due("feed " + i, i * 20, heap.feed(0, 0, 0, 0, 0));
        }
        edges.refused("feed of a full tape", -1, EdgesOfTextsTest::fullTape, full -> full.feed(1, 2, 3, 4, 5));
        ColouredHeap full = fullTape();
        full.feed(-1, -1, -1, -1, -1);
        edges.due("the full tape is what it was", 0, full.text());
        ColouredHeap cut = fullTape();
        cut.end(281);
        edges.due("feed to 301", -1, cut.feed(0, 0, 0, 0, 0));
        edges.due("bytes", 281, cut.about(5));
        cut.end(280);
        edges.due("feed to 300", 300, cut.feed(0, 0, 0, 0, 0));
    }

    private static void endWithin() {
        ColouredHeap heap = new ColouredHeap();
        edges.due("end 0 of an empty tape", 0, heap.end(0));
        heap.feed(0, 0, 0, 0, 0);
        edges.due("end 20 of 20", 20, heap.end(20));
        edges.due("bytes", 20, heap.about(5));
        edges.due("end 1", 1, heap.end(1));
        edges.due("its first byte alone", 1, heap.about(5));
        edges.due("end 0", 0, heap.end(0));
        edges.due("an empty tape", 0, heap.about(5));
        ColouredHeap full = fullTape();
        edges.due("end 300 of 300", 300, full.end(300));
        edges.due("all of it", 0, full.text());
        cut("drop 0;drop 6;", 7, 0, -1);
        cut("drop 0;drop 6;", 13, 2, 12);
        cut("dropper 0;", 4, 1, 4);
        cut("picks 12345;", 10, 1, 10);
        cut("picks if 1<=2 then", 11, 1, 11);
    }

    /** What stood behind the end does not come into the last token. */
    private static void cut(String tape, int n, int what, int place) {
        ColouredHeap heap = new ColouredHeap();
        Runs.tape(heap, tape);
        heap.end(n);
        heap.text();
        edges.due("fault of " + n + " of " + tape, what, heap.fault(0));
        edges.due("its place", place, heap.fault(1));
    }

    private static ColouredHeap twenty() {
        ColouredHeap heap = new ColouredHeap();
        heap.feed(word("drop"), word(" 0;d"), word("rop "), word("1;da"), word("y 9;"));
        return heap;
    }

    private static void endBeyond() {
        edges.refused("end 1 of an empty tape", -1, ColouredHeap::new, heap -> heap.end(1));
        for (int n : Edges.others(0, 20)) {
            edges.refused("end " + n + " of 20", -1, EdgesOfTextsTest::twenty, heap -> heap.end(n));
        }
        edges.refused("end 301 of 300", -1, EdgesOfTextsTest::fullTape, heap -> heap.end(301));
        ColouredHeap heap = twenty();
        heap.end(6);
        edges.due("bytes that went don't come back", -1, heap.end(7));
        ColouredHeap same = twenty();
        same.end(21);
        same.end(-1);
        edges.due("the tape is what it was", 0, same.text());
    }

    // ---- texts

    private static void texts() {
        edges.of("Promise 4", "The tape (empty then) is a TEXT: its number.", EdgesOfTextsTest::textNumbers);
        edges.of("Promise 4", "NONE: it has a FAULT; or (the tape stays) there are 4.",
            EdgesOfTextsTest::noText);
        edges.of("Terms", "TEXTS 0 .. 3: of up to 300 bytes.", EdgesOfTextsTest::longTexts);
        edges.of("Promise 5", "Of the latest text that was read: 0 its FAULT (0 without), 1 its place (NONE without).",
            EdgesOfTextsTest::faultWithout);
        edges.of("Promise 5", "NONE for others, and ahead of any.", EdgesOfTextsTest::faultOfOthers);
        edges.of("Promise 6", "THE TEXT (NONE: none): true.", EdgesOfTextsTest::byNone);
        edges.of("Promise 6", "False for others.", EdgesOfTextsTest::byOthers);
        edges.of("Terms", "THE TEXT (told; at first none) rules.", EdgesOfTextsTest::atFirstNoneRules);
    }

    private static void textNumbers() {
        ColouredHeap heap = new ColouredHeap();
        edges.due("an empty tape is a text", 0, heap.text());
        edges.due("blanks alone are one", 1, Runs.tell(heap, " \n "));
        edges.due("the tape is empty then", 0, heap.about(5));
        edges.due("the third", 2, Runs.tell(heap, "drop 0;"));
        edges.due("the tape is empty again", 0, heap.about(5));
        edges.due("the fourth", 3, Runs.tell(heap, "drop 0;"));
        edges.due("texts", 4, heap.about(0));
    }

    private static ColouredHeap fourTexts(String more) {
        ColouredHeap heap = new ColouredHeap();
        for (int i = 0; i < 4; i++) {
            Runs.tell(heap, "paces " + i + ";");
        }
        Runs.tape(heap, more);
        return heap;
    }

    private static void noText() {
        ColouredHeap heap = new ColouredHeap();
        edges.due("a fault", -1, Runs.tell(heap, "drop 6;"));
        edges.due("no text", 0, heap.about(0));
        edges.due("its tape is empty, too", 0, heap.about(5));
        edges.due("the next one is the first", 0, Runs.tell(heap, "drop 5;"));
        edges.refused("a fifth", -1, () -> fourTexts("drop 0;"), ColouredHeap::text);
        edges.refused("a fifth with a fault", -1, () -> fourTexts("drop 6;"), ColouredHeap::text);
        edges.refused("an empty fifth", -1, () -> fourTexts(""), ColouredHeap::text);
        ColouredHeap many = new ColouredHeap();
        for (int i = 0; i < 24; i++) {
            edges.due("a fault " + i, -1, Runs.tell(many, "picks 1" + "+1".repeat(120)));
        }
        edges.due("faults use up no room", 0, Runs.tell(many, "picks 0" + "+0".repeat(144) + "+1;"));
        many.by(0);
        edges.due("its law", 1, many.page(0, 3));
        ColouredHeap back = fourTexts("drop 0; drop");
        back.text();
        back.back();
        edges.due("the tape stayed: it is read when there is a place again", -1, back.text());
        edges.due("the place of its fault", 12, back.fault(1));
    }

    private static void longTexts() {
        String most = "picks 1;" + " ".repeat(285) + "make 3;";
        ColouredHeap heap = new ColouredHeap();
        edges.due("300 bytes with a fault in the last", -1, Runs.tell(heap, most));
        edges.due("its place", 299, heap.fault(1));
        edges.due("300 bytes", 0, Runs.tell(heap, "drop 0;" + "\n".repeat(287) + "day 3;"));
        heap.make(0, 0);
        edges.due("played", -1, heap.played(0));
        edges.due("the first clause", -1, heap.root(0));
        edges.due("the last clause", 3, heap.is(0));
        fault(" ".repeat(299) + "@", 1, 299);
        fault(" ".repeat(299) + ";", 1, 299);
        fault(" ".repeat(299) + "<", 1, 299);
        fault("picks if 1" + " ".repeat(289) + ">", 1, 300);
        right("\n".repeat(300));
        fault(";".repeat(300), 1, 0);
        fault("picks " + "1".repeat(294), 2, 6);
        fault("a".repeat(300), 1, 0);
        String sum = "picks 1" + "+1".repeat(146) + ";";
        edges.due("300 bytes without a blank", 300, sum.length());
        edges.due("a sum of 147", 1, Runs.tell(heap, sum));
        edges.due("its last product counts", 1,
            Runs.ruled("picks 1" + "-0".repeat(145) + "-1;").page(0, 3) + Runs.ruled(sum).page(0, 3));
    }

    private static void faultWithout() {
        ColouredHeap heap = new ColouredHeap();
        heap.text();
        edges.due("fault of an empty text", 0, heap.fault(0));
        edges.due("place of none", -1, heap.fault(1));
        Runs.tell(heap, "@");
        edges.due("a fault", 1, heap.fault(0));
        edges.due("place 0", 0, heap.fault(1));
        Runs.tell(heap, "drop 0;");
        edges.due("the latest has none", 0, heap.fault(0));
        edges.due("nor a place", -1, heap.fault(1));
    }

    private static void faultOfOthers() {
        edges.due("fault ahead of any", -1, new ColouredHeap().fault(0));
        edges.due("place ahead of any", -1, new ColouredHeap().fault(1));
        ColouredHeap heap = new ColouredHeap();
        Runs.tape(heap, "drop 6;");
        edges.due("a tape that was not read", -1, heap.fault(0));
        heap.text();
        for (int what : Edges.others(0, 1)) {
            edges.due("fault " + what, -1, heap.fault(what));
        }
    }

    private static ColouredHeap ruledByTheLast() {
        ColouredHeap heap = fourTexts("");
        heap.by(3);
        return heap;
    }

    private static void byNone() {
        ColouredHeap heap = new ColouredHeap();
        edges.due("none, without a text", true, heap.by(-1));
        edges.due("THE TEXT", -1, heap.about(1));
        ColouredHeap ruled = ruledByTheLast();
        edges.due("the last of four rules", 3, ruled.paces(0));
        edges.due("the first", true, ruled.by(0));
        edges.due("rules", 0, ruled.about(1));
        edges.due("none", true, ruled.by(-1));
        edges.due("none rules", -1, ruled.about(1));
    }

    private static void byOthers() {
        edges.refused("by 0 of none", false, ColouredHeap::new, heap -> heap.by(0));
        for (int text : Edges.others(-1, 3)) {
            edges.refused("by " + text + " of four", false, EdgesOfTextsTest::ruledByTheLast, heap -> heap.by(text));
        }
        edges.refused("by 1 of one", false, () -> Runs.ruled("paces 1;"), heap -> heap.by(1));
        ColouredHeap gone = ruledByTheLast();
        gone.back();
        edges.due("by a text that is gone", false, gone.by(0));
    }

    private static void atFirstNoneRules() {
        ColouredHeap heap = new ColouredHeap();
        edges.due("at first none", -1, heap.about(1));
        Runs.tell(heap, "paces 4; picks 0;");
        edges.due("none yet", -1, heap.about(1));
        edges.due("paces", 0, heap.paces(0));
        edges.due("picks", 1, heap.page(0, 3));
        heap.by(0);
        edges.due("its paces", 4, heap.paces(0));
        edges.due("its picks", 0, heap.page(0, 3));
    }

    // ---- texts that are played

    private static void playing() {
        edges.of("Promise 17", "NONE: all is done; else the number of the CLAUSE that can't be.",
            EdgesOfTextsTest::clauseThatCannot);
        edges.of("Promise 17", "-2 for others.", EdgesOfTextsTest::playedOthers);
        edges.of("Terms", "its CLAUSES but laws, in their order, as by hand", EdgesOfTextsTest::greatestNumbersPlayed);
        edges.of("Terms", "one that can't be ends it", EdgesOfTextsTest::eachKindCannot);
        edges.of("Terms", "(of so many TICKS those that can pass do)", EdgesOfTextsTest::ticksThatCan);
        edges.of("Terms", "its number among all CLAUSES (from 0)", EdgesOfTextsTest::lawsAreCounted);
        edges.of("Terms", "what was done stays", EdgesOfTextsTest::whatWasDone);
    }

    private static int played(ColouredHeap heap, String text) {
        return heap.played(Runs.tell(heap, text));
    }

    private static void clauseThatCannot() {
        edges.due("no clauses", -1, played(new ColouredHeap(), ""));
        edges.due("laws alone", -1, played(new ColouredHeap(), "picks 1; paces 9;"));
        edges.due("the first", 0, played(new ColouredHeap(), "drop 0;"));
        edges.due("the last of 24", 23, played(new ColouredHeap(), "day 1;".repeat(23) + "drop 0;"));
        edges.due("all 24", -1, played(new ColouredHeap(), "day 1;".repeat(24)));
        ColouredHeap two = new ColouredHeap();
        Runs.tell(two, "drop 0;".repeat(24));
        edges.due("one clause, behind a text of 24", -1, played(two, "day 1;"));
        edges.due("none, behind a text of 24", -1, played(two, ""));
        edges.due("one tick", 1, two.is(0));
    }

    private static void playedOthers() {
        edges.refused("played 0 of none", -2, ColouredHeap::new, heap -> heap.played(0));
        for (int text : Edges.others(0, 3)) {
            edges.refused("played " + text + " of four", -2, () -> fourTexts(""), heap -> heap.played(text));
        }
        edges.refused("played 1 of one", -2, () -> Runs.ruled("day 1;"), heap -> heap.played(1));
    }

    private static void greatestNumbersPlayed() {
        ColouredHeap heap = new ColouredHeap();
        edges.due("played", -1, played(heap, "make 0 of 0;make 5 of 3;store 0 to 5 of 2;load 4 from 5 of 2;drop 0;"));
        edges.due("made without fields", 1000, heap.at(0));
        edges.due("made of three", 1003, heap.at(1));
        edges.due("at root 5", 129, heap.root(5));
        edges.due("stored into field 2", 128, heap.at(4));
        edges.due("loaded into root 4", 128, heap.root(4));
        edges.due("dropped", -1, heap.root(0));
        edges.due("a step each", 5, heap.about(2));
        edges.due("60 ticks", -1, played(heap, "day 60;"));
        edges.due("clock", 60, heap.is(0));
        ColouredHeap paced = Runs.ruled("paces 2; make 3 of 1;");
        edges.due("made as by hand", -1, paced.played(0));
        edges.due("with the ticks of THE TEXT", 2, paced.is(0));
        edges.due("of that step", 1, paced.about(2));
    }

    private static void eachKindCannot() {
        ColouredHeap full = Runs.filled();
        edges.due("no room to make", 0, played(full, "make 1 of 0; day 1;"));
        edges.due("a load from none", 0, played(full, "load 1 from 2 of 0; day 1;"));
        edges.due("a store into none", 0, played(full, "store 5 to 2 of 0; day 1;"));
        edges.due("what follows is not done", 0, full.is(0));
        ColouredHeap heap = new ColouredHeap();
        heap.make(0, 2);
        edges.due("a load of a field it hasn't", 0, played(heap, "load 1 from 0 of 2; day 1;"));
        edges.due("a store into a field it hasn't", 0, played(heap, "store 0 to 0 of 2; day 1;"));
        edges.due("a drop of none", 0, played(heap, "drop 1; day 1;"));
        edges.due("a load of none can be", 1, played(heap, "load 1 from 0 of 1; drop 1; day 1;"));
        edges.due("no tick", 0, heap.is(0));
    }

    private static void ticksThatCan() {
        ColouredHeap exact = Runs.atClock(9990);
        edges.due("nine of nine", -1, played(exact, "day 9;"));
        edges.due("clock", 9999, exact.is(0));
        edges.due("none is left", 0, played(exact, "day 1;"));
        edges.due("clock stays", 9999, exact.is(0));
        ColouredHeap more = Runs.atClock(9990);
        edges.due("nine of sixty", 0, played(more, "day 60; make 0 of 0;"));
        edges.due("those that can", 9999, more.is(0));
        edges.due("what follows is not done", -1, more.root(0));
        more.undo();
        edges.due("each is a step", 9998, more.is(0));
    }

    private static void lawsAreCounted() {
        edges.due("behind no law", 0, played(new ColouredHeap(), "drop 0; picks 1; paces 1;"));
        edges.due("behind one", 1, played(new ColouredHeap(), "picks 1; drop 0; paces 1;"));
        edges.due("behind both", 2, played(new ColouredHeap(), "picks 1; paces 1; drop 0;"));
    }

    private static void whatWasDone() {
        ColouredHeap heap = new ColouredHeap();
        edges.due("played", 2, played(heap, "make 5 of 1; day 2; drop 4; drop 5;"));
        edges.due("made", 64 * heap.is(3), heap.root(5));
        edges.due("ticks", 2, heap.is(0));
        edges.due("steps", 3, heap.about(2));
    }

    // ---- what is said

    private static void saying() {
        edges.of("Promise 45", "SAID: how many there are (page NONE: none any more).", EdgesOfTextsTest::saidNone);
        edges.of("Promise 45", "-2 for others (0, 1), or if there are 8.", EdgesOfTextsTest::saidOthers);
        edges.of("Terms", "WHOSE LAW (told: SAID, 8 at most: a PAGE, whether picked (1, 0))",
            EdgesOfTextsTest::eightSaid);
        edges.of("Terms", "TEXTS (bits) by whose picks all are so (as now).", EdgesOfTextsTest::allAreSo);
        edges.of("Promise 46", "WHOSE LAW (bits).", EdgesOfTextsTest::whoseBits);
        edges.of("Promise 28", "NONE for others (0 .. 3).", EdgesOfTextsTest::pacesOfOthers);
    }

    private static ColouredHeap eight() {
        ColouredHeap heap = new ColouredHeap();
        for (int i = 0; i < 8; i++) {
            heap.said(i, i % 2);
        }
        return heap;
    }

    private static void saidNone() {
        ColouredHeap heap = new ColouredHeap();
        edges.due("none of none", 0, heap.said(-1, 0));
        edges.due("the first", 1, heap.said(0, 0));
        edges.due("the same once more", 2, heap.said(0, 0));
        edges.due("none any more", 0, heap.said(-1, 1));
        edges.due("the first again", 1, heap.said(7, 1));
        ColouredHeap full = eight();
        edges.due("none of eight any more", 0, full.said(-1, 0));
        edges.due("they are gone", 0, full.about(4));
        edges.due("the first of all", 1, full.said(3, 1));
    }

    private static void saidOthers() {
        for (int page : new int[] {-2, 8, Integer.MIN_VALUE, Integer.MAX_VALUE}) {
            edges.refused("said page " + page, -2, ColouredHeap::new, heap -> heap.said(page, 0));
        }
        for (int picks : Edges.others(0, 1)) {
            edges.refused("said picks " + picks, -2, ColouredHeap::new, heap -> heap.said(0, picks));
        }
        edges.refused("a ninth", -2, EdgesOfTextsTest::eight, heap -> heap.said(0, 0));
    }

    private static void eightSaid() {
        ColouredHeap heap = new ColouredHeap();
        Runs.tell(heap, "picks page-page/2*2;");
        Runs.tell(heap, "picks page-page/2*2-page/7;");
        for (int i = 0; i < 8; i++) {
            edges.due("whose ahead of " + i, 3, heap.whose());
            edges.due("said " + i, i + 1, heap.said(i, i % 2));
        }
        edges.due("the eighth counts", 1, heap.whose());
        heap.said(0, 1);
        edges.due("a ninth does not", 1, heap.whose());
    }

    private static void allAreSo() {
        ColouredHeap heap = Runs.shared();
        Runs.tell(heap, "picks lives;");
        Runs.tell(heap, "");
        heap.said(0, 1);
        edges.due("without picks half of used or less", 2, heap.whose());
        heap.start();
        edges.due("nothing lives there yet", 2, heap.whose());
        heap.day(1);
        edges.due("three of seven live there now", 3, heap.whose());
        heap.said(0, 0);
        edges.due("picked and not", 0, heap.whose());
    }

    private static void whoseBits() {
        ColouredHeap none = new ColouredHeap();
        edges.due("no texts", 0, none.whose());
        none.said(0, 1);
        edges.due("no texts, one said", 0, none.whose());
        edges.due("four texts, nothing said", 15, fourTexts("").whose());
        ColouredHeap last = new ColouredHeap();
        for (int i = 0; i < 4; i++) {
            Runs.tell(last, "picks " + i / 3 + ";");
        }
        last.said(7, 1);
        edges.due("the last alone", 8, last.whose());
    }

    private static void pacesOfOthers() {
        for (int fields : Edges.others(0, 3)) {
            edges.refused("paces " + fields, -1, () -> Runs.ruled("paces 9;"), heap -> heap.paces(fields));
        }
        ColouredHeap heap = Runs.ruled("paces fields+1;");
        edges.due("paces 0", 1, heap.paces(0));
        edges.due("paces 3", 4, heap.paces(3));
    }

    // ---- tokens and clauses

    private static void tokens() {
        edges.of("Terms", "TOKENS, blanks (32, 10) aside", EdgesOfTextsTest::everyByte);
        edges.of("Terms", "letters a .. z, A .. Z one behind the other (one TOKEN)", EdgesOfTextsTest::letters);
        edges.of("Terms", "digits likewise (NUMBERS, 0 .. 9999)", EdgesOfTextsTest::digits);
        edges.of("Terms", "<= >= < > = # + - * / ( ) ; (the longest)", EdgesOfTextsTest::theLongest);
        edges.of("Terms", "{CLAUSE}, 24 at most", EdgesOfTextsTest::clauses);
        edges.of("Terms", "picks SUM ; or paces SUM ; (each once)", EdgesOfTextsTest::eachOnce);
    }

    private static void fault(String text, int what, int place) {
        ColouredHeap heap = new ColouredHeap();
        edges.due("number of " + text, what == 0 ? 0 : -1, Runs.tell(heap, text));
        edges.due("fault of " + text, what, heap.fault(0));
        edges.due("place in " + text, place, heap.fault(1));
    }

    private static void right(String text) {
        fault(text, 0, -1);
    }

    private static void everyByte() {
        for (int sign = 0; sign < 256; sign++) {
            String text = "drop 0" + (char) sign + ";";
            boolean blank = sign == 32 || sign == 10;
            if (blank || sign >= '0' && sign <= '5') {
                right(text);
            } else if (sign >= '6' && sign <= '9') {
                fault(text, 2, 5);
            } else {
                fault(text, 1, sign == ';' ? 7 : 6);
            }
        }
    }

    private static void letters() {
        for (char sign : "azAZmM".toCharArray()) {
            fault("picks" + sign + " 1;", 1, 0);
            fault("picks " + sign + ";", 1, 6);
        }
        for (char sign : "@[`{".toCharArray()) {
            fault("picks" + sign + " 1;", 1, 5);
        }
        right("picks(1);");
        right("picks1;");
        fault("picks 1;paces1;drop0;makepicks", 1, 21);
        fault("picks clockphase;", 1, 6);
        fault("Picks 1;", 1, 0);
        fault("picks Clock;", 1, 6);
        fault("picks cloc;", 1, 6);
        fault("pick 1;", 1, 0);
    }

    private static void digits() {
        right("picks 0;");
        right("picks 9;");
        right("picks 1/1;");
        fault("picks 1:1;", 1, 7);
        right("picks 9999;");
        fault("picks 10000;", 2, 6);
        right("picks " + "0".repeat(200) + "9999;");
        fault("picks " + "0".repeat(200) + "10000;", 2, 6);
        fault("picks 4294967297;", 2, 6);
        fault("picks 2147483648;", 2, 6);
        fault("picks 18446744073709551617;", 2, 6);
        fault("picks " + "9".repeat(293), 2, 6);
        fault("picks 99 99;", 1, 9);
    }

    private static void theLongest() {
        for (String sign : new String[] {"<", "<=", ">", ">=", "=", "#"}) {
            right("picks if 1" + sign + "2 then 1 else 2 end;");
        }
        fault("picks if 1< =2 then 1 else 2 end;", 1, 12);
        fault("picks if 1> =2 then 1 else 2 end;", 1, 12);
        fault("picks if 1=<2 then 1 else 2 end;", 1, 11);
        fault("picks if 1<>2 then 1 else 2 end;", 1, 11);
        fault("picks if 1<<=2 then 1 else 2 end;", 1, 11);
        fault("picks if 1<==2 then 1 else 2 end;", 1, 12);
        fault("picks if 1<", 1, 11);
        fault("picks 1!;", 1, 7);
    }

    private static void clauses() {
        right("");
        right("drop 0;");
        right("drop 0;".repeat(24));
        fault("drop 0;".repeat(25), 6, 168);
        right("picks 1;paces 1;" + "drop 0;".repeat(22));
        fault("picks 1;paces 1;" + "drop 0;".repeat(23), 6, 170);
    }

    private static void eachOnce() {
        right("picks 1; paces 1;");
        right("paces 1; picks 1;");
        fault("picks 1; paces 1; picks 1;", 4, 18);
        fault("paces 1; picks 1; paces 1;", 4, 18);
    }

    // ---- sums

    private static void sums() {
        edges.of("Terms", "live ONE (LIVE words of the PAGE of that number; 0 for others)", EdgesOfTextsTest::liveOfPages);
        edges.of("Terms", "used ONE (USED words likewise)", EdgesOfTextsTest::usedOfPages);
        edges.of("Terms", "NAMES: clock, phase, free (how many PAGES are FREE), stack (how many lie on it) in both",
            EdgesOfTextsTest::namesAtTheirEnds);
        edges.of("Terms", "page, lives (its LIVE words), words (its USED words) in picks", EdgesOfTextsTest::namesOfPages);
        edges.of("Terms", "/ cuts towards 0, by 0 it is 0", EdgesOfTextsTest::division);
        edges.of("Terms", "what is above 1000000 (below the same less) is that, at each step",
            EdgesOfTextsTest::greatNumbers);
        edges.of("Terms", "or and and look at both sides always, of if just the SUM that is chosen is asked",
            EdgesOfTextsTest::bothSides);
        edges.of("Terms", "ASK: not ASK, or SUM one of < <= > >= = # (unlike) SUM.", EdgesOfTextsTest::comparisons);
    }

    private static void asks(ColouredHeap heap, String ask, boolean want) {
        heap.by(-1);
        heap.back();
        heap.by(Runs.tell(heap, "paces if " + ask + " then 1 else 0 end;"));
        edges.due("fault of " + ask, 0, heap.fault(0));
        edges.due(ask, want ? 1 : 0, heap.paces(0));
    }

    private static void holds(String ask) {
        asks(new ColouredHeap(), ask, true);
    }

    private static void fails(String ask) {
        asks(new ColouredHeap(), ask, false);
    }

    /** All pages are full; while marking, the object at 60 on page 7 is marked, and none else. */
    private static ColouredHeap markedAtTheLast() {
        ColouredHeap heap = Runs.filled();
        heap.start();
        heap.image();
        return heap;
    }

    private static void liveOfPages() {
        ColouredHeap heap = markedAtTheLast();
        asks(heap, "live 7=4", true);
        asks(heap, "live 0=0", true);
        asks(heap, "live 8=0", true);
        asks(heap, "live -1=0", true);
        asks(heap, "live 9999=0", true);
        asks(heap, "live(9999*9999)=0", true);
        asks(heap, "live-(9999*9999)=0", true);
        asks(heap, "live live 7=0", true);
        heap = Runs.filled();
        heap.start();
        heap.day(16);
        heap.image();
        asks(heap, "live 0=8", true);
        asks(heap, "live 7=8", true);
        asks(heap, "live live 0=0", true);
    }

    private static void usedOfPages() {
        ColouredHeap heap = markedAtTheLast();
        asks(heap, "used 0=8", true);
        asks(heap, "used 7=8", true);
        asks(heap, "used 8=0", true);
        asks(heap, "used -1=0", true);
        asks(heap, "used used 0=0", true);
        asks(heap, "used(9999*9999)=0", true);
        asks(new ColouredHeap(), "used 0=0", true);
    }

    private static void namesAtTheirEnds() {
        asks(new ColouredHeap(), "clock=0 and phase=0 and free=8 and stack=0 and fields=0", true);
        ColouredHeap last = Runs.atClock(9998);
        last.image();
        asks(last, "clock=9998 and phase=2", true);
        last.day(1);
        last.image();
        asks(last, "clock=9999 and phase=0", true);
        ColouredHeap full = markedAtTheLast();
        asks(full, "clock=0 and phase=1 and free=0 and stack=1", true);
        ColouredHeap most = Runs.ruled("paces fields*3;");
        edges.due("0 fields", 0, most.paces(0));
        edges.due("3 fields", 9, most.paces(3));
    }

    private static void namesOfPages() {
        ColouredHeap heap = markedAtTheLast();
        heap.by(Runs.tell(heap, "picks page*100-600+lives*10+words-147;"));
        edges.due("page 7: 700 - 600 + 40 + 8 - 147", 1, heap.page(7, 3));
        edges.due("page 6: 600 - 600 + 0 + 8 - 147", 0, heap.page(6, 3));
        heap.by(Runs.tell(heap, "picks if page=0 and lives=0 and words=8 and clock=0 and free=0 and stack=phase"
            + " then 1 else 0 end;"));
        edges.due("page 0", 1, heap.page(0, 3));
        edges.due("page 1", 0, heap.page(1, 3));
    }

    private static void division() {
        holds("7/2=3");
        holds("-7/2=-3");
        holds("7/-2=-3");
        holds("-7/-2=3");
        holds("1/2=0");
        holds("-1/2=0");
        holds("5/0=0");
        holds("-5/0=0");
        holds("0/0=0");
        holds("5/(1/2)=0");
        holds("5/0+3=3");
        holds("9/2*2=8");
        holds("9999*9999/0=0");
    }

    private static void greatNumbers() {
        holds("1000*1000>9999*100+99");
        holds("1000*1000-1=9999*100+99");
        holds("1000*1000+1=1000*1000");
        holds("1000*1001=1000*1000");
        holds("1000*1000+1-1=9999*100+99");
        holds("1000*1001/1001=999");
        holds("(1000*1000)*(1000*1000)=1000*1000");
        holds("(1000*1000)*(-1000*1000)=-1000*1000");
        holds("-1000*1000<-9999*100-99");
        holds("-1000*1000+1=-9999*100-99");
        holds("-1000*1000-1=-1000*1000");
        holds("-1000*1000-1+1=-9999*100-99");
        holds("-(-1000*1000)=1000*1000");
        holds("-(1000*1000)=-1000*1000");
        holds("1000*1000-(-1000*1000)=1000*1000");
        holds("-1000*1000-1000*1000=-1000*1000");
        fails("1000*1000+1>1000*1000");
    }

    private static void bothSides() {
        holds("1=1 or 1/0=1");
        holds("1/0=1 or 1=1");
        fails("1/0=1 and 1=1");
        fails("1=1 and 1/0=1");
        fails("1=2 or 1/0=1");
        holds("1=1 and 1/0=0");
        holds("if 1=1 then 3 else 1/0 end=3");
        holds("if 1=2 then 1/0 else 4 end=4");
        holds("1=2 and 1=2 or 1=1");
        holds("1=1 or 1=2 and 1=2");
    }

    private static void comparisons() {
        String[] signs = {"<", "<=", ">", ">=", "=", "#"};
        boolean[][] want = {
            {true, false, false}, {true, true, false}, {false, false, true}, {false, true, true}, {false, true, false},
            {true, false, true}
        };
        for (int i = 0; i < signs.length; i++) {
            for (int left = -1; left <= 1; left++) {
                boolean is = want[i][left + 1];
                String number = left < 0 ? "-1" : String.valueOf(left);
                asks(new ColouredHeap(), number + signs[i] + "0", is);
                asks(new ColouredHeap(), "not " + number + signs[i] + "0", !is);
                asks(new ColouredHeap(), "not not " + number + signs[i] + "0", is);
            }
        }
    }

    // ---- faults

    private static void faults() {
        edges.of("Terms", "FAULTS, the first as TOKENS are come to", EdgesOfTextsTest::theFirst);
        edges.of("Terms", "at the TOKEN's first byte (of the end at the length)", EdgesOfTextsTest::theEnd);
        edges.of("Terms", "of one the least", EdgesOfTextsTest::theLeast);
        edges.of("Terms", "1 it can't stand there, or is none.", EdgesOfTextsTest::cannotStand);
        edges.of("Terms", "2 a NUMBER that isn't one of those told (above 9999; ROOTS 0 .. 5, how many fields 0 .. 3, a"
            + " field 0 .. 2, TICKS 1 .. 60).", EdgesOfTextsTest::ranges);
        edges.of("Terms", "3 the 9th of ( not live used if and - (of one ONE) that are open around one another (at it).",
            EdgesOfTextsTest::theNinth);
        edges.of("Terms", "4 picks, paces for the second time (at it).", EdgesOfTextsTest::secondTime);
        edges.of("Terms", "5 a NAME that isn't of that CLAUSE (at it).", EdgesOfTextsTest::names);
        edges.of("Terms", "6 the 25th CLAUSE (at its first TOKEN).", EdgesOfTextsTest::the25th);
    }

    private static void theFirst() {
        fault("drop 6; @", 2, 5);
        fault("@ drop 6;", 1, 0);
        fault("drop 6 @", 2, 5);
        fault("picks fields+10000;", 5, 6);
        fault("picks 10000+fields;", 2, 6);
        fault("picks 1; picks fields;", 4, 9);
        fault("load 6 from 6 of 3;", 2, 5);
        fault("store 5 to 6 of 3;", 2, 11);
    }

    private static void theEnd() {
        fault("drop", 1, 4);
        fault("drop 0", 1, 6);
        fault("drop 0 \n ", 1, 9);
        fault("picks 1" + "+1".repeat(146) + "+", 1, 300);
        fault("  \n  foo", 1, 5);
        fault("drop 0; day 61", 2, 12);
        fault("picks", 1, 5);
    }

    private static void theLeast() {
        fault("picks 1 10000;", 1, 8);
        fault("picks 1 fields;", 1, 8);
        fault("make fields of 0;", 1, 5);
        fault("picks " + "(".repeat(8) + "not 1=1;", 1, 14);
        fault("drop 0;".repeat(24) + "of", 1, 168);
        fault("drop 0;".repeat(24) + "@", 1, 168);
        fault("drop 0;".repeat(24) + "10000", 1, 168);
        fault("picks 1;" + "drop 0;".repeat(23) + "picks", 4, 169);
        fault("picks 1;" + "drop 0;".repeat(23) + "paces", 6, 169);
    }

    private static void cannotStand() {
        fault(";", 1, 0);
        fault("0;", 1, 0);
        fault("drop 0;;", 1, 7);
        fault("drop ;", 1, 5);
        fault("drop 0 1;", 1, 7);
        fault("picks ;", 1, 6);
        fault("picks ();", 1, 7);
        fault("picks (1;", 1, 8);
        fault("picks 1);", 1, 7);
        fault("picks 1+;", 1, 8);
        fault("picks 1<=2;", 1, 7);
        fault("picks 1>=2;", 1, 7);
        fault("picks 1=2;", 1, 7);
        fault("picks 1*-;", 1, 9);
        fault("picks +1;", 1, 6);
        fault("picks not 1=1;", 1, 6);
        fault("picks if 1 then 1 else 1 end;", 1, 11);
        fault("picks if (1=1) then 1 else 1 end;", 1, 11);
        fault("picks if 1=1=1 then 1 else 1 end;", 1, 12);
        fault("picks if 1=1 and then 1 else 1 end;", 1, 17);
        fault("picks if 1=1 then 1 end;", 1, 20);
        fault("picks if 1=1 then 1 else 1;", 1, 26);
        fault("make 0 from 1;", 1, 7);
        fault("load 0 of 1;", 1, 7);
        fault("store 0 from 1 of 0;", 1, 8);
        fault("drop -1;", 1, 5);
        fault("day;", 1, 3);
        fault("foo", 1, 0);
    }

    private static void ranges() {
        right("make 0 of 0; make 5 of 3;");
        fault("make 6 of 0;", 2, 5);
        fault("make 0 of 4;", 2, 10);
        right("load 0 from 0 of 0; load 5 from 5 of 2;");
        fault("load 6 from 0 of 0;", 2, 5);
        fault("load 0 from 6 of 0;", 2, 12);
        fault("load 0 from 0 of 3;", 2, 17);
        right("store 0 to 0 of 0; store 5 to 5 of 2;");
        fault("store 6 to 0 of 0;", 2, 6);
        fault("store 0 to 6 of 0;", 2, 11);
        fault("store 0 to 0 of 3;", 2, 16);
        right("drop 0; drop 5;");
        fault("drop 6;", 2, 5);
        right("day 1; day 60;");
        fault("day 0;", 2, 4);
        fault("day 61;", 2, 4);
        fault("day 10000;", 2, 4);
        right("paces 0; picks 9999;");
        fault("paces 10000;", 2, 6);
        fault("drop 4294967296;", 2, 5);
    }

    private static void theNinth() {
        right("picks " + "(".repeat(8) + "1" + ")".repeat(8) + ";");
        fault("picks " + "(".repeat(9) + "1" + ")".repeat(9) + ";", 3, 14);
        right("picks " + "-".repeat(8) + "1;");
        fault("picks " + "-".repeat(9) + "1;", 3, 14);
        right("picks 1-" + "-".repeat(8) + "1;");
        right("picks " + "live ".repeat(8) + "1;");
        fault("picks " + "live ".repeat(9) + "1;", 3, 46);
        right("picks " + "used ".repeat(8) + "1;");
        fault("picks " + "used ".repeat(9) + "1;", 3, 46);
        right("picks if " + "not ".repeat(7) + "1=1 then 1 else 1 end;");
        fault("picks if " + "not ".repeat(8) + "1=1 then 1 else 1 end;", 3, 37);
        String deep = "if 1=1 then ";
        right("picks " + deep.repeat(8) + "1" + " else 1 end".repeat(8) + ";");
        fault("picks " + deep.repeat(9) + "1" + " else 1 end".repeat(9) + ";", 3, 102);
        ninthInParts();
    }

    private static void ninthInParts() {
        right("picks if ((((((1))))))=((((((1)))))) then ((((((1)))))) else ((((((1)))))) end;");
        fault("picks if ((((((((1))))))))=1 then 1 else 1 end;", 3, 16);
        fault("picks if 1=((((((((1)))))))) then 1 else 1 end;", 3, 18);
        fault("picks if 1=1 then ((((((((1)))))))) else 1 end;", 3, 25);
        fault("picks if 1=1 then 1 else ((((((((1)))))))) end;", 3, 32);
        right("picks if not 1=1 and (((((((1)))))))=1 then 1 else 1 end;");
        fault("picks if not (((((((1)))))))=1 then 1 else 1 end;", 3, 19);
        right("picks " + "(1)+".repeat(20) + "(1);");
        right("picks ((((((((1))))))))*((((((((1))))))));");
        fault("picks (-live used(-live used(1)));", 3, 28);
    }

    private static void secondTime() {
        fault("picks 1;picks 1;", 4, 8);
        fault("paces 1;paces 1;", 4, 8);
        fault("picks 1; drop 0; picks", 4, 17);
        fault("paces 1; drop 0; paces", 4, 17);
        fault("picks picks 1;", 1, 6);
    }

    private static void names() {
        for (String name : new String[] {"clock", "phase", "free", "stack"}) {
            right("picks " + name + "; paces " + name + ";");
        }
        for (String name : new String[] {"page", "lives", "words"}) {
            right("picks " + name + ";");
            fault("paces " + name + ";", 5, 6);
            fault("picks " + name + "; paces 1+live " + name + ";", 5, 21 + name.length());
        }
        right("paces fields;");
        fault("picks fields;", 5, 6);
        fault("paces fields; picks fields;", 5, 20);
    }

    private static void the25th() {
        String most = "drop 0;".repeat(24);
        right(most);
        right(most + " \n ");
        for (String kind : new String[] {"picks", "paces", "make", "load", "store", "drop", "day"}) {
            fault(most + " " + kind, 6, 169);
        }
        fault(most + "drop 9;", 6, 168);
    }

    // ---- laws

    private static void laws() {
        edges.of("Terms", "picks: above 0 it does; without: if LIVE is half of USED or less.",
            EdgesOfTextsTest::picksAboveNone);
        edges.of("Terms", "paces: 0 at least, 9 at most; without: 0.", EdgesOfTextsTest::pacesWithin);
    }

    private static int picked(int live, int dead) {
        ColouredHeap heap = new ColouredHeap();
        heap.make(0, live - 1);
        heap.make(1, dead - 1);
        heap.drop(1);
        heap.start();
        edges.due("used", live + dead, heap.page(0, 1));
        edges.due("live", live, heap.page(0, 2));
        return heap.page(0, 3);
    }

    private static void picksAboveNone() {
        edges.due("picks 0", 0, Runs.ruled("picks 0;").page(0, 3));
        edges.due("picks 1", 1, Runs.ruled("picks 1;").page(0, 3));
        edges.due("picks -1", 0, Runs.ruled("picks -1;").page(0, 3));
        edges.due("picks the most", 1, Runs.ruled("picks 9999*9999;").page(7, 3));
        edges.due("picks the least", 0, Runs.ruled("picks -9999*9999;").page(7, 3));
        edges.due("4 of 8", 1, picked(4, 4));
        edges.due("3 of 7", 1, picked(3, 4));
        edges.due("4 of 7", 0, picked(4, 3));
        edges.due("1 of 2", 1, picked(1, 1));
        edges.due("2 of 3", 0, picked(2, 1));
        edges.due("0 of 0", 1, new ColouredHeap().page(0, 3));
        edges.due("without picks in THE TEXT", 1, Runs.ruled("paces 1;").page(0, 3));
    }

    private static void pacesWithin() {
        edges.due("paces -1", 0, Runs.ruled("paces -1;").paces(0));
        edges.due("paces 0", 0, Runs.ruled("paces 0;").paces(0));
        edges.due("paces 1", 1, Runs.ruled("paces 1;").paces(0));
        edges.due("paces 9", 9, Runs.ruled("paces 9;").paces(0));
        edges.due("paces 10", 9, Runs.ruled("paces 10;").paces(0));
        edges.due("paces the most", 9, Runs.ruled("paces 9999*9999;").paces(0));
        edges.due("paces the least", 0, Runs.ruled("paces -9999*9999;").paces(0));
        edges.due("without paces in THE TEXT", 0, Runs.ruled("picks 9;").paces(3));
        edges.due("without a TEXT", 0, new ColouredHeap().paces(3));
    }
}
