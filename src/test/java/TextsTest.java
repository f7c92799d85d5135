/** Promises 2 to 6, 17, 28, 45 and 46: the tape, the texts, their faults, and what the laws say. */
public final class TextsTest {
    private static final Check CHECK = new Check("TextsTest");

    public static void main(String[] args) {
        promise02();
        promise03();
        promise04();
        promise05();
        promise06();
        promise17();
        promise28();
        promise45();
        promise46();
        tokens();
        places();
        ranges();
        depth();
        laws();
        names();
        arithmetic();
        picksInChoosing();
        CHECK.close();
    }

    private static void promise02() {
        ColouredHeap heap = new ColouredHeap();
        for (int i = 1; i <= 15; i++) {
            CHECK.due("feed " + i, i * 20, heap.feed(0, 0, 0, 0, 0));
        }
        CHECK.due("feed beyond 300", -1, heap.feed(1, 2, 3, 4, 5));
        CHECK.due("bytes", 300, heap.about(5));
        heap.end(281);
        CHECK.due("feed to 301", -1, heap.feed(0, 0, 0, 0, 0));
        CHECK.due("bytes stay", 281, heap.about(5));
        heap.end(280);
        CHECK.due("feed to 300", 300, heap.feed(0, 0, 0, 0, 0));
        ColouredHeap order = new ColouredHeap();
        order.feed('d' << 24 | 'r' << 16 | 'o' << 8 | 'p', ' ' << 24 | '9' << 16 | ';' << 8, 0, 0, 0);
        order.end(7);
        CHECK.due("the highest byte is the first", -1, order.text());
        CHECK.due("its fault", 2, order.fault(0));
        CHECK.due("its place", 5, order.fault(1));
        ColouredHeap high = new ColouredHeap();
        high.feed(0xff000000, 0, 0, 0, 0);
        high.end(1);
        CHECK.due("byte 255", -1, high.text());
        CHECK.due("byte 255 is no token", 1, high.fault(0));
    }

    private static void promise03() {
        ColouredHeap heap = new ColouredHeap();
        CHECK.due("end 0", 0, heap.end(0));
        CHECK.due("end 1 of 0", -1, heap.end(1));
        heap.feed(0, 0, 0, 0, 0);
        CHECK.due("end below 0", -1, heap.end(-1));
        CHECK.due("end 21 of 20", -1, heap.end(21));
        CHECK.due("bytes stay", 20, heap.about(5));
        CHECK.due("end 20", 20, heap.end(20));
        CHECK.due("end 3", 3, heap.end(3));
        CHECK.due("bytes", 3, heap.about(5));
    }

    private static void promise04() {
        ColouredHeap heap = new ColouredHeap();
        CHECK.due("an empty text", 0, heap.text());
        CHECK.due("text 1", 1, Runs.tell(heap, "drop 0;"));
        CHECK.due("the tape is empty", 0, heap.about(5));
        CHECK.due("a faulty text", -1, Runs.tell(heap, "drop"));
        CHECK.due("the tape is empty then, too", 0, heap.about(5));
        CHECK.due("texts", 2, heap.about(0));
        CHECK.due("text 2", 2, Runs.tell(heap, " \n "));
        CHECK.due("text 3", 3, Runs.tell(heap, "picks 1;"));
        CHECK.due("a fifth text", -1, Runs.tell(heap, "drop"));
        CHECK.due("the tape stays", 4, heap.about(5));
        CHECK.due("it was not read", 0, heap.fault(0));
        CHECK.due("texts stay", 4, heap.about(0));
    }

    private static void promise05() {
        ColouredHeap heap = new ColouredHeap();
        CHECK.due("fault ahead of any", -1, heap.fault(0));
        CHECK.due("place ahead of any", -1, heap.fault(1));
        Runs.tell(heap, "make 0 of 1;");
        CHECK.due("fault without", 0, heap.fault(0));
        CHECK.due("place without", -1, heap.fault(1));
        Runs.tell(heap, "make 0 of 1");
        CHECK.due("fault at the end", 1, heap.fault(0));
        CHECK.due("place of the end", 11, heap.fault(1));
        CHECK.due("fault -1", -1, heap.fault(-1));
        CHECK.due("fault 2", -1, heap.fault(2));
        heap.back();
        CHECK.due("back leaves the fault", 1, heap.fault(0));
    }

    private static void promise06() {
        ColouredHeap heap = new ColouredHeap();
        CHECK.due("by 0 of none", false, heap.by(0));
        CHECK.due("by none", true, heap.by(-1));
        Runs.tell(heap, "paces 4;");
        CHECK.due("a text that was told does not rule yet", 0, heap.paces(0));
        CHECK.due("by 0", true, heap.by(0));
        CHECK.due("THE TEXT", 0, heap.about(1));
        CHECK.due("its law", 4, heap.paces(0));
        CHECK.due("by 1 of 1", false, heap.by(1));
        CHECK.due("by -2", false, heap.by(-2));
        CHECK.due("THE TEXT stays", 0, heap.about(1));
        CHECK.due("by none again", true, heap.by(-1));
        CHECK.due("no TEXT", -1, heap.about(1));
        CHECK.due("no law", 0, heap.paces(0));
    }

    private static void promise17() {
        ColouredHeap heap = new ColouredHeap();
        CHECK.due("played 0 of none", -2, heap.played(0));
        Runs.tell(heap, "picks 1; make 0 of 2; paces 3; make 1 of 0; store 1 to 0 of 1; load 2 from 0 of 1; day 2;");
        CHECK.due("played -1", -2, heap.played(-1));
        CHECK.due("played 1", -2, heap.played(1));
        CHECK.due("played 0", -1, heap.played(0));
        CHECK.due("its laws do not rule", 2, heap.is(0));
        CHECK.due("stored into field 1", 131, heap.at(2));
        CHECK.due("loaded", 3, heap.root(2));
        CHECK.due("steps", 6, heap.about(2));
        Runs.tell(heap, "drop 2; drop 2; drop 0;");
        CHECK.due("the second drop can't be", 1, heap.played(1));
        CHECK.due("what was done stays", -1, heap.root(2));
        CHECK.due("what follows isn't done", 0, heap.root(0));
        Runs.tell(heap, "load 4 from 1 of 0; drop 0;");
        CHECK.due("a load that can't be", 0, heap.played(2));
        Runs.tell(heap, "load 4 from 0 of 0; store 0 to 5 of 0;");
        CHECK.due("a load of none can be", 1, heap.played(3));
        ticksThatCanPass();
    }

    private static void ticksThatCanPass() {
        ColouredHeap heap = new ColouredHeap();
        Runs.tell(heap, "day 60;".repeat(24));
        for (int i = 0; i < 6; i++) {
            CHECK.due("days", -1, heap.played(0));
        }
        CHECK.due("clock", 8640, heap.is(0));
        CHECK.due("the clock ends", 22, heap.played(0));
        CHECK.due("those that can pass do", 9999, heap.is(0));
        CHECK.due("at the end", 0, heap.played(0));
        CHECK.due("steps", 30, heap.about(2));
        CHECK.due("undo", 29, heap.undo());
        CHECK.due("each tick is a step", 9998, heap.is(0));
    }

    private static void promise28() {
        ColouredHeap heap = Runs.ruled("paces fields * 4 - 3;");
        CHECK.due("paces below 0", 0, heap.paces(0));
        CHECK.due("paces 1", 1, heap.paces(1));
        CHECK.due("paces 2", 5, heap.paces(2));
        CHECK.due("paces 3", 9, heap.paces(3));
        CHECK.due("paces -1", -1, heap.paces(-1));
        CHECK.due("paces 4", -1, heap.paces(4));
        CHECK.due("without a law", 0, Runs.ruled("picks 9;").paces(3));
        CHECK.due("above 9", 9, Runs.ruled("paces 10;").paces(0));
    }

    private static void promise45() {
        ColouredHeap heap = new ColouredHeap();
        CHECK.due("said page -2", -2, heap.said(-2, 0));
        CHECK.due("said page 8", -2, heap.said(8, 0));
        CHECK.due("said picks 2", -2, heap.said(0, 2));
        CHECK.due("said picks -1", -2, heap.said(0, -1));
        for (int i = 0; i < 8; i++) {
            CHECK.due("said " + i, i + 1, heap.said(i, i % 2));
        }
        CHECK.due("a ninth", -2, heap.said(0, 0));
        CHECK.due("they stay", 8, heap.about(4));
        CHECK.due("none any more", 0, heap.said(-1, 0));
        CHECK.due("none", 0, heap.about(4));
        CHECK.due("said anew", 1, heap.said(7, 1));
    }

    private static void promise46() {
        ColouredHeap heap = Runs.shared();
        CHECK.due("whose of none", 0, heap.whose());
        Runs.tell(heap, "picks words - 6;");
        Runs.tell(heap, "paces 1;");
        Runs.tell(heap, "picks page;");
        Runs.tell(heap, "picks 0;");
        CHECK.due("nothing was said", 15, heap.whose());
        heap.said(0, 1);
        CHECK.due("page 0 is picked", 3, heap.whose());
        heap.said(1, 0);
        CHECK.due("page 1 is not", 1, heap.whose());
        heap.said(-1, 0);
        heap.said(0, 0);
        CHECK.due("page 0 is not picked", 12, heap.whose());
        heap.said(1, 1);
        CHECK.due("page 1 is", 4, heap.whose());
        heap.said(1, 0);
        CHECK.due("both can't be", 0, heap.whose());
    }

    private static void fault(String text, int what, int place) {
        ColouredHeap heap = new ColouredHeap();
        int number = Runs.tell(heap, text);
        CHECK.due("number of " + text, what == 0 ? 0 : -1, number);
        CHECK.due("fault of " + text, what, heap.fault(0));
        CHECK.due("place in " + text, place, heap.fault(1));
    }

    private static void tokens() {
        fault("make0of2;", 0, -1);
        fault("\n make \n 0  of 2 \n ; ", 0, -1);
        fault("makeof 0;", 1, 0);
        fault("Make 0 of 2;", 1, 0);
        fault("make 0 of 2;\t", 1, 12);
        fault("make 0 of 2;\r", 1, 12);
        fault("make 0 OF 2;", 1, 7);
        fault("make 0 of 2;;", 1, 12);
        fault("picks 1<=2;", 1, 7);
        fault("picks if 1< =2 then 1 else 2 end;", 1, 12);
        fault("picks if 1<=2 then 1 else 2 end;", 0, -1);
        fault("picks if 1>=2then 1else 2end;", 0, -1);
        fault("picks 0000000000000000009999;", 0, -1);
        fault("picks 1.5;", 1, 7);
        fault("picks 1" + (char) 233 + ";", 1, 7);
        fault("picks @;", 1, 6);
        fault("picksa 1;", 1, 0);
        fault("picksz 1;", 1, 0);
        fault("picksA 1;", 1, 0);
        fault("picksZ 1;", 1, 0);
        fault("picks 1; picks@", 4, 9);
        fault(";".repeat(300), 1, 0);
        fault("picks 1" + "+1".repeat(146) + ";", 0, -1);
        fault("picks 1" + "+1".repeat(146) + "+", 1, 300);
    }

    private static void places() {
        fault("picks;", 1, 5);
        fault("picks ", 1, 6);
        fault("picks 1", 1, 7);
        fault("picks 1  \n", 1, 10);
        fault("picks (1;", 1, 8);
        fault("picks 1);", 1, 7);
        fault("picks 1 2;", 1, 8);
        fault("picks 1 10000;", 1, 8);
        fault("picks 1 page;", 1, 8);
        fault("picks foo;", 1, 6);
        fault("picks not 1=1;", 1, 6);
        fault("picks + 1;", 1, 6);
        fault("picks 1 * * 2;", 1, 10);
        fault("picks if (1<2) then 1 else 2 end;", 1, 11);
        fault("picks if 1 then 2 else 3 end;", 1, 11);
        fault("picks if 1<2 then 1 end;", 1, 20);
        fault("picks if 1<2 else 1;", 1, 13);
        fault("picks if 1<2<3 then 1 else 2 end;", 1, 12);
        fault("picks if 1<2 and then 1 else 2 end;", 1, 17);
        fault("picks if 1<2 or not 2=3 and 1#1 then 1 else 2 end;", 0, -1);
        fault("make of 0;", 1, 5);
        fault("make page of 0;", 1, 5);
        fault("store 0 from 1 of 0;", 1, 8);
        fault("load 0 to 1 of 0;", 1, 7);
        fault("drop 0 of 0;", 1, 7);
        fault("day;", 1, 3);
        fault("0 make;", 1, 0);
        fault("end;", 1, 0);
    }

    private static void ranges() {
        fault("picks 9999;", 0, -1);
        fault("picks 10000;", 2, 6);
        fault("picks 99999999999999999999999;", 2, 6);
        fault("make 5 of 3;", 0, -1);
        fault("make 6 of 3;", 2, 5);
        fault("make 5 of 4;", 2, 10);
        fault("load 5 from 5 of 2;", 0, -1);
        fault("load 6 from 6 of 3;", 2, 5);
        fault("load 5 from 6 of 3;", 2, 12);
        fault("load 5 from 5 of 3;", 2, 17);
        fault("store 5 to 5 of 2;", 0, -1);
        fault("store 6 to 5 of 2;", 2, 6);
        fault("store 5 to 6 of 2;", 2, 11);
        fault("store 5 to 5 of 3;", 2, 16);
        fault("drop 5;", 0, -1);
        fault("drop 6;", 2, 5);
        fault("day 1; day 60;", 0, -1);
        fault("day 0;", 2, 4);
        fault("day 61;", 2, 4);
    }

    private static void depth() {
        fault("picks " + "(".repeat(8) + "1" + ")".repeat(8) + ";", 0, -1);
        fault("picks " + "(".repeat(9) + "1" + ")".repeat(9) + ";", 3, 14);
        fault("picks " + "-".repeat(8) + "1;", 0, -1);
        fault("picks " + "-".repeat(9) + "1;", 3, 14);
        fault("picks 1-" + "-".repeat(8) + "1;", 0, -1);
        fault("picks " + "live ".repeat(8) + "1;", 0, -1);
        fault("picks " + "used ".repeat(9) + "1;", 3, 46);
        fault("picks if " + "not ".repeat(7) + "1=1 then 1 else 2 end;", 0, -1);
        fault("picks if " + "not ".repeat(8) + "1=1 then 1 else 2 end;", 3, 37);
        fault("picks if " + "not ".repeat(7) + "(1)=1 then 1 else 2 end;", 3, 37);
        fault("picks if 1=1 then " + "(".repeat(7) + "1" + ")".repeat(7) + " else -------1 end;", 0, -1);
        fault("picks if 1=1 then 1 else --------1 end;", 3, 32);
        fault("picks (((1)))+(((((((1)))))))*--------1;", 0, -1);
        fault("picks " + "(".repeat(8) + "if;", 3, 14);
        fault("picks " + "(".repeat(8) + "not;", 1, 14);
        fault("picks " + "(".repeat(8) + "1-1" + ")".repeat(8) + ";", 0, -1);
    }

    private static void laws() {
        fault("picks 1; paces 1;", 0, -1);
        fault("paces 1; picks 1; paces 1;", 4, 18);
        fault("picks 1; picks", 4, 9);
        fault("drop 0;".repeat(24), 0, -1);
        fault("drop 0;".repeat(24) + " \n", 0, -1);
        fault("drop 0;".repeat(24) + "drop 9;", 6, 168);
        fault("drop 0;".repeat(24) + " drop", 6, 169);
        fault("drop 0;".repeat(24) + "of", 1, 168);
        fault("picks 1;" + "drop 0;".repeat(23) + "picks 1;", 4, 169);
        fault("picks 1;" + "drop 0;".repeat(23) + "paces 1;", 6, 169);
    }

    private static void names() {
        fault("picks clock+phase+free+stack+page+lives+words;", 0, -1);
        fault("paces clock+phase+free+stack+fields;", 0, -1);
        fault("picks fields;", 5, 6);
        fault("paces page;", 5, 6);
        fault("paces lives;", 5, 6);
        fault("paces words;", 5, 6);
        fault("picks 1; paces live page;", 5, 20);
        fault("make fields of 0;", 1, 5);
    }

    private static void value(String sum, int want) {
        int got = NOT_FOUND;
        for (int n = -1; n <= 9 && got == NOT_FOUND; n++) {
            ColouredHeap heap = Runs.ruled("paces if " + sum + " = " + (n < 0 ? "-1" : String.valueOf(n))
                + " then 1 else 0 end;");
            CHECK.due("fault of " + sum, 0, heap.fault(0));
            got = heap.paces(2) == 1 ? n : NOT_FOUND;
        }
        CHECK.due(sum, want, got);
    }

    private static final int NOT_FOUND = -99;

    private static void arithmetic() {
        value("7-2-1", 4);
        value("7-(2-1)", 6);
        value("1+2*3", 7);
        value("9/2*2", 8);
        value("9/(2*2)", 2);
        value("-7/2+3", 0);
        value("7/-2+3", 0);
        value("5/0", 0);
        value("0/0+3", 3);
        value("--3", 3);
        value("-1", -1);
        value("-2*-2", 4);
        value("2*-3+7", 1);
        value("9999*9999/9999", NOT_FOUND);
        value("9999*9999-9999*100-99", 1);
        value("9999*9999+1-9999*100-99", 1);
        value("-9999*9999+9999*100+99", -1);
        value("9999*9999/1000/100", NOT_FOUND);
        value("9999*9999/1000/200", 5);
        value("fields", 2);
        value("fields*fields-fields", 2);
        value("if 1<2 then 3 else 4 end", 3);
        value("if 2<1 then 3 else 4 end+1", 5);
        value("if 1<=1 and 2>=2 then 3 else 4 end", 3);
        value("if 1=1 and 2#2 then 3 else 4 end", 4);
        value("if 1=2 or 2#3 then 3 else 4 end", 3);
        value("if 1=1 or 1=1 and 1=2 then 3 else 4 end", 3);
        value("if not 1=1 or 1=1 then 3 else 4 end", 3);
        value("if not not 1=1 then 3 else 4 end", 3);
        value("if not not 1=2 then 3 else 4 end", 4);
        value("if not 1=1 then 3 else 4 end", 4);
        value("if not 1=2 then 3 else 4 end", 3);
        value("if not 1=2 and 1=1 then 3 else 4 end", 3);
        value("if not 1=2 and 1=2 then 3 else 4 end", 4);
        value("if 1<2 and 2>1 and 1=1 and 1#2 and 1<=2 and 2>=1 then 3 else 4 end", 3);
        value("if not 1<2 or not 2>1 or not 1=1 or not 1#2 or not 1<=2 or not 2>=1 then 3 else 4 end", 4);
        value("if 2<1 or 1>2 or 1=2 or 1#1 or 2<=1 or 1>=2 then 3 else 4 end", 4);
        value("if 1<1 or 1>1 or 1<=0 or 0>=1 then 3 else 4 end", 4);
        value("1" + "+1-1".repeat(50), 1);
        value("if 1>1 then 3 else if 1<=0 then 5 else 6 end end", 6);
        value("if if 1=1 then 0 else 1 end=0 then 7 else 8 end", 7);
        value("live 0", 0);
        value("used -1", 0);
        value("used 8", 0);
        value("free", 8);
    }

    private static void picksInChoosing() {
        ColouredHeap heap = Runs.shared();
        heap.by(Runs.tell(heap, "picks if phase=2 and free=6 and stack=0 and clock=2 and page=0 and lives=3 and words=7"
            + " and used 1=4 and live 1=4 and live page=lives and live 9=0 and used(0-1)=0 then 1 else 0 end;"));
        heap.start();
        heap.day(2);
        CHECK.due("not picked while marking", 0, heap.page(0, 3));
        CHECK.due("the law is asked as all is in choosing", 1, heap.choose());
        CHECK.due("picked", 1, heap.page(0, 3));
        CHECK.due("page 1 is not", 0, heap.page(1, 3));
        ColouredHeap never = Runs.shared();
        never.by(Runs.tell(never, "picks 0;"));
        never.start();
        never.day(2);
        CHECK.due("a law that picks none", 0, never.choose());
    }
}
