// Promises 7 to 9, 12 to 15 and 23 to 25: grains, statements, expressions, procs, signals and reactions.
public final class RunTest {
    private static final int LEAST = -2147483648;

    public static void main(String[] args) {
        processors();
        begin();
        runRefuses();
        runAnswers();
        grains();
        turns();
        expressions();
        outOfSpan();
        rows();
        rowAnswers();
        arraysEver();
        branches();
        blocksOver();
        procs();
        procsUnderWay();
        signals();
        reactions();
        reactionsInPlace();
        signalsOutOfProcs();
        changesNothing();
        signalsEver();
        taskAnswers();
        values();
        logged();
        induced();
        counts();
        beginAgain();
        fullHouse();
        longText();
        Check.finish();
    }

    private static void processors() {
        House h = Check.read("task a 1 main{log 1;log 4;}task b 1 main{log 2;log 5;}task c 1 main{log 3;log 6;}");
        Check.due("processors(0)", PearlHouse.BAD, h.processors(0));
        Check.due("processors(4)", PearlHouse.BAD, h.processors(4));
        Check.due("processors(3)", 1, h.processors(3));
        Check.due("processors(2)", 3, h.processors(2));
        h.begin();
        Check.due("processors(1), of the next run", 2, h.processors(1));
        h.run(1);
        Check.logs("two processors", h, 1, 2);
        h.begin();
        h.run(1);
        Check.logs("one processor", h, 1);
        h.processors(3);
        h.begin();
        h.run(2);
        Check.logs("three processors", h, 1, 2, 3, 4, 5, 6);
        Check.due("count(0)", 2, h.count(0));
    }

    private static void begin() {
        House h = Check.read("var a=7;var b;row r;sema s 3;bolt l;irpt i;in n;out o;task t 1 main{a=1;b=2;make r 2;ask s;reserve l;put o 1;"
            + "log 5;disable i;after 9 start u;induce 11;}task u 2{log 1;}task v 1 main{}task w 3 main{end;}");
        Check.due("begin()", 2, h.begin());
        h.send(0, 3);
        h.run(10);
        h.trigger(0);
        Check.due("begin() again", 2, h.begin());
        Check.due("value(0)", 7, h.value(0));
        Check.due("value(1)", 0, h.value(1));
        Check.due("item(0, NONE)", -1, h.item(0, PearlHouse.NONE));
        Check.due("sema(0)", 3, h.sema(0));
        Check.due("bolt(0, 0)", PearlHouse.NONE, h.bolt(0, 0));
        Check.due("irpt(0, 0)", 1, h.irpt(0, 0));
        Check.due("irpt(0, 1)", 0, h.irpt(0, 1));
        Check.due("irpt(0, 2)", 0, h.irpt(0, 2));
        Check.due("sent(0, NONE)", 0, h.sent(0, PearlHouse.NONE));
        Check.due("logged(0)", 0, h.logged(0));
        Check.due("induced(0, 0)", PearlHouse.NONE, h.induced(0, 0));
        Check.due("task(0, 7)", 0, h.task(0, 7));
        Check.due("task(0, 5)", 1, h.task(0, 5));
        Check.due("task(2, 5), without S", 1, h.task(2, 5));
        Check.due("task(2, 6), without S", 1, h.task(2, 6));
        int[] due = {0, 0, 0, 0, 0, 0, 0, 2, 0, 0};
        for (int what = 0; what <= 9; what++) {
            Check.due("count(" + what + ")", due[what], h.count(what));
        }
        Check.due("send(0, 3), the in was empty", 1, h.send(0, 3));
    }

    private static void runRefuses() {
        House h = new House();
        Check.due("run(0), BAD ahead of STATE", PearlHouse.BAD, h.run(0));
        Check.due("run(501)", PearlHouse.BAD, h.run(501));
        Check.due("run(-1)", PearlHouse.BAD, h.run(-1));
        Check.due("run(500)", PearlHouse.STATE, h.run(500));
    }

    private static void runAnswers() {
        House h = Check.begun("task a 1 main{log 1;log 2;}");
        Check.due("run(1)", 1, h.run(1));
        Check.due("run(1), the last S", 1, h.run(1));
        Check.due("run(1)", 2, h.run(1));
        Check.due("count(1)", 2, h.count(1));
        h = Check.begun("task a 1 main{log 1;log 2;}");
        Check.due("run(500)", 2, h.run(500));
        h = Check.begun("sema s 0;task a 1 main{ask s;}");
        Check.due("run(1)", 1, h.run(1));
        Check.due("run(5), STILL", 0, h.run(5));
        Check.due("count(1)", 1, h.count(1));
        Check.due("count(0)", 1, h.count(0));
        h = Check.begun("task a 1 main{while 1{}}");
        Check.due("run(500)", 1, h.run(500));
        Check.due("count(2)", 500, h.count(2));
    }

    private static void grains() {
        House h = Check.begun("task a 1 main{after 10 start b;}task b 1{log time;}");
        Check.due("run(1)", 1, h.run(1));
        Check.due("count(0)", 1, h.count(0));
        Check.due("run(1), TIME goes on", 1, h.run(1));
        Check.due("count(0)", 10, h.count(0));
        Check.due("count(1)", 2, h.count(1));
        Check.due("count(2)", 1, h.count(2));
        Check.due("task(1, 0), not yet", 0, h.task(1, 0));
        Check.due("run(1)", 1, h.run(1));
        Check.due("count(0)", 11, h.count(0));
        Check.logs("b", h, 10);
        Check.due("run(1)", 2, h.run(1));
        h = Check.begun("irpt i;task a 1 main{when i start a;when i go a;}");
        Check.due("run(9), irpts alone are no next schedule", 2, h.run(9));
        Check.due("count(1)", 2, h.count(1));
    }

    private static void turns() {
        House h = Check.ran("task a 5 main{log 1;log 2;}task b 3 main{log 3;log 4;}task c 5 main{log 5;}", 9);
        Check.logs("by priority, then as they became ready", h, 3, 4, 1, 2, 5);
        h = Check.read("task a 1 main{hold b;log 1;go b;}task b 2 main{log 2;}task c 3 main{log 3;}");
        h.processors(2);
        h.begin();
        h.run(1);
        Check.logs("b is READY no more", h);
        Check.due("count(2)", 1, h.count(2));
        h.run(1);
        Check.logs("then c", h, 1, 3);
        h = Check.ran("task a 3 main{log 1;prior a 5;log 2;}task b 4 main{log 3;}", 9);
        Check.logs("prior", h, 1, 3, 2);
        h = Check.ran("task a 3 main{hold b;go b;prior a 4;log 1;}task b 4 main{log 2;}task c 4 main{log 3;}", 9);
        Check.logs("b became READY anew, a stayed", h, 1, 3, 2);
    }

    private static void expressions() {
        House h = Check.ran("var a=-7;task t 1 main{log 2+3*4;log (2+3)*4;log 10-3-2;log a/2;log a%2;log 7/-2;log 7%-2;log --3;log -a;log 1<2;"
            + "log 2<1;log 2>1;log 1>2;log 1=1;log 1=2;log 1+1=2;log 2*3%4;log 20/3*2;log 7/1;log 7%1;log state t;log state u;log time;log 1-(2-3);log -2*3;}"
            + "task u 1{}", 50);
        Check.logs("expressions", h, 14, 20, 5, -3, -1, -3, 1, 3, 7, 1, 0, 1, 0, 1, 0, 1, 2, 12, 7, 0, 1, 0, 22, 2, -6);
    }

    private static void outOfSpan() {
        String least = "(-2147483*1000-648)";
        House h = Check.ran("task t 1 main{log " + least + ";log 2147483*1000+647;log -2147483*1000-648;}", 9);
        Check.logs("the ends of the span", h, LEAST, 2147483647, LEAST);
        String[] over = {"log 2147483*1000+648;", "log -2147483*1000-649;", "log -" + least + ";", "log " + least + "/-1;", "log 65536*32768;",
            "log 999999999*999999999;", "log (2147483*1000+648)*0;"};
        for (String s : over) {
            h = Check.ran("task t 1 main{" + s + "}", 9);
            Check.due(s + " induces", 5, h.induced(0, 1));
            Check.due(s + " logs", 0, h.count(3));
        }
        h = Check.ran("task t 1 main{log " + least + "%-1;log 65536*-32768;}", 9);
        Check.logs("just in the span", h, 0, LEAST);
        h = Check.ran("row r;task t 1 main{log r[1/0];}task u 1 main{log 1/0+r[0];}task v 1 main{log r[0]+1/0;}task w 1 main{log 1%0;}", 9);
        Check.due("from the left, 4", 4, h.induced(0, 1));
        Check.due("from the left, 4", 4, h.induced(1, 1));
        Check.due("from the left, 1", 1, h.induced(2, 1));
        Check.due("% by 0", 4, h.induced(3, 1));
    }

    private static void rows() {
        House h = Check.ran("row a;row b;row c;row d;task t 1 main{make a 3;a[0]=5;a[2]=6;same b a;b[1]=9;make c 20;make d 0;"
            + "log size a;log a[1];log size d;c[19]=4;make a 2;log b[2];log a[0];same c d;lose d;}", 50);
        Check.logs("rows", h, 3, 9, 0, 6, 0);
        Check.due("item(1, 0)", 5, h.item(1, 0));
        Check.due("item(0, NONE)", 2, h.item(0, -1));
        Check.due("item(2, NONE)", 0, h.item(2, -1));
        Check.due("item(3, NONE)", -1, h.item(3, -1));
        h = Check.ran("row a;row b;task t 1 main{make a 3;a[2]=9;make b 1;b[0]=4;make a 2;make b 0;}", 50);
        Check.due("item(0, 2), behind the last", 0, h.item(0, 2));
        Check.due("item(1, 0), behind the last", 0, h.item(1, 0));
        h = Check.ran("row a;row b;task t 1 main{make a 2;a[0]=7;make a 2;log a[0];same b a;b[1]=3;lose a;make a 2;log a[1];log b[1];same a a;log size a;same b a;"
            + "lose a;same b a;}", 50);
        Check.logs("new arrays are 0", h, 0, 0, 3, 2);
        Check.due("same of NONE", -1, h.item(1, -1));
        String[] calls = {"log size a;", "log a[0];", "a[0]=1;", "make a 3;log a[3];", "make a 3;log a[-1];", "make a 3;a[3]=1;", "make a 0;log a[0];",
            "make a -1;", "make a 21;", "a[1/0]=a[0];", "a[0]=1/0;", "make a 1;a[1]=1/0;", "make a 999999999;"};
        int[] due = {1, 1, 1, 2, 2, 2, 2, 3, 3, 4, 4, 4, 3};
        for (int i = 0; i < calls.length; i++) {
            h = Check.ran("row a;task t 1 main{" + calls[i] + "}", 9);
            Check.due(calls[i] + " induces", due[i], h.induced(0, 1));
        }
    }

    private static void rowAnswers() {
        House h = Check.read("row a;row b;row c;task t 1 main{make a 2;same b a;a[1]=8;make c 2;}");
        Check.due("one(0, 1)", PearlHouse.STATE, h.one(0, 1));
        Check.due("item(0, 0), no run", 0, h.item(0, 0));
        Check.due("item(0, NONE), no run", 0, h.item(0, -1));
        h.begin();
        Check.due("one(0, 2), NONE is like NONE", 1, h.one(0, 2));
        Check.due("item(0, NONE)", -1, h.item(0, -1));
        Check.due("item(0, 0)", 0, h.item(0, 0));
        h.run(1);
        Check.due("one(0, 1)", 0, h.one(0, 1));
        h.run(9);
        Check.due("one(0, 1)", 1, h.one(0, 1));
        Check.due("one(0, 2)", 0, h.one(0, 2));
        Check.due("one(2, 2)", 1, h.one(2, 2));
        Check.due("one(-1, 0)", PearlHouse.NONE, h.one(-1, 0));
        Check.due("one(0, 3)", PearlHouse.NONE, h.one(0, 3));
        Check.due("item(1, 1)", 8, h.item(1, 1));
        Check.due("item(1, 2)", 0, h.item(1, 2));
        Check.due("item(1, -2)", 0, h.item(1, -2));
        Check.due("item(1, NONE)", 2, h.item(1, -1));
        Check.due("item(3, NONE)", 0, h.item(3, -1));
        Check.due("item(-1, 0)", 0, h.item(-1, 0));
    }

    private static void arraysEver() {
        House h = Check.begun("var a;row r;task t 1 main{while 1{make r 1;}}");
        for (int i = 0; i < 15; i++) {
            h.run(500);
        }
        h.begin();
        h.run(500);
        Check.due("4000 arrays, none refused", 0, h.count(4));
        for (int i = 0; i < 100 && h.count(4) == 0; i++) {
            h.run(1);
        }
        Check.due("count(2), 7500 and 502 S: 3750 and 250 arrays and one that is refused", 502, h.count(2));
        Check.due("induced(0, 1)", 3, h.induced(0, 1));
        h.begin();
        h.run(2);
        Check.due("ever, in the next run, too", 3, h.induced(0, 1));
    }

    private static void branches() {
        House h = Check.ran("var a;task t 1 main{if 2{log 1;}else{log 2;}if 0{log 3;}else{log 4;}if 0{log 5;}if -1{log 6;}while a<3{a=a+1;log a;}"
            + "log 7;if 1{}else{log 8;}log 9;}", 50);
        Check.logs("if, while", h, 1, 4, 6, 1, 2, 3, 7, 9);
        Check.due("count(2)", 20, h.count(2));
        h = Check.begun("var a=2;task t 1 main{while a{a=a-1;}log 5;}");
        int[] due = {0, 1, 0, 1, 0, 2};
        for (int i = 0; i < due.length; i++) {
            Check.due("task(0, 2) before grain " + i, due[i], h.task(0, 2));
            h.run(1);
        }
        Check.due("task(0, 2) at the end", PearlHouse.NONE, h.task(0, 2));
        h = Check.ran("task t 1 main{while 1{}log 1;}", 7);
        Check.due("an empty while goes on", 7, h.count(2));
        Check.due("task(0, 2)", 0, h.task(0, 2));
    }

    private static void blocksOver() {
        House h = Check.begun("task t 1 main{if 1{if 1{log 1;}}}");
        h.run(2);
        Check.due("task(0, 0)", 1, h.task(0, 0));
        h.run(1);
        Check.due("task(0, 0), the last S lets all be over", 0, h.task(0, 0));
        Check.due("task(0, 6)", 1, h.task(0, 6));
        h = Check.begun("task t 1 main{if 1{}}");
        h.run(1);
        Check.due("task(0, 0), an empty block", 0, h.task(0, 0));
        h = Check.begun("irpt i;task t 1 main{when i start t;pull i;}");
        h.run(2);
        Check.due("task(0, 5), what an irpt lets act comes first", 2, h.task(0, 5));
        Check.due("task(0, 0)", 1, h.task(0, 0));
        Check.due("task(0, 2)", 0, h.task(0, 2));
        h = Check.begun("task t 1 main{hold t;}");
        h.run(1);
        Check.due("task(0, 0), held and over", 0, h.task(0, 0));
    }

    private static void procs() {
        House h = Check.ran("var a;var b=4;proc p(x,y){x=x+1;return x*y;log 99;}proc q(){log 50;}proc e(){}proc f(n){if n<2{return 1;}"
            + "b=do f(n-1);return b*n;}proc w(x){while 1{if x>2{return x;}x=x+1;}}"
            + "task t 1 main{a=do p(b,5);log a;a=do q();log a;a=9;a=do e();log a;do p(1,1);a=do f(5);log a;a=do w(0);log a;}", 100);
        Check.logs("procs", h, 25, 50, 0, 0, 120, 3);
        h = Check.ran("var a=3;proc q(){return 5;}proc p(){do q();}proc r(){a=do q();}task t 1 main{a=do p();log a;a=do r();log a;}", 20);
        Check.logs("a number goes one proc far", h, 0, 0);
        h = Check.begun("proc p(){log 1;}proc q(){do p();}task t 1 main{do q();}");
        h.run(1);
        Check.due("task(0, 8)", 1, h.task(0, 8));
        Check.due("task(0, 2)", 1, h.task(0, 2));
        h.run(1);
        Check.due("task(0, 8)", 2, h.task(0, 8));
        Check.due("count(8)", 2, h.count(8));
        Check.due("count(9)", 0, h.count(9));
        h.run(1);
        Check.due("all over in one S", 0, h.task(0, 0));
        Check.due("count(9)", 2, h.count(9));
        h = Check.ran("proc p(x){x=do q(x);log x;}proc q(y){return y+1;}task t 1 main{do p(3);}", 20);
        Check.logs("a parameter gets the number", h, 4);
        h = Check.read("var a;proc p(x){log x;log x+1;}task t 1 main{do p(10);}task u 1 main{do p(20);}");
        h.processors(2);
        h.begin();
        h.run(9);
        Check.logs("each task has parameters of its own", h, 10, 20, 11, 21);
    }

    private static void procsUnderWay() {
        House h = Check.ran("var a;proc p(x){on 6{log a;return a;}a=x;do p(x+1);log 77;}task t 1 main{do p(1);log 100;}", 100);
        Check.due("induced(0, 1)", 6, h.induced(0, 1));
        Check.due("logged(0), the eighth meets it", 8, h.logged(0));
        Check.due("count(8)", 8, h.count(8));
        Check.due("count(9)", 8, h.count(9));
        Check.due("count(3)", 9, h.count(3));
        h = Check.ran("proc p(x){do p(x/0);}task t 1 main{do p(1);}", 9);
        Check.due("the E come first", 4, h.induced(0, 1));
    }

    private static void signals() {
        String[] calls = {"induce 1;", "induce 19;", "induce 10;", "induce 0;", "induce 20;", "induce -3;", "go t;", "end u;", "hold u;", "prior u 3;", "prior u 0;",
            "prior t 10;", "free b;", "leave b;", "give s;", "at -1 start u;", "after 0 start u;", "all 0 start u;", "all 5 until 4 start u;", "go u;"};
        int[] due = {1, 19, 10, 5, 5, 5, 7, 7, 7, 7, 5, 5, 8, 8, 8, 9, 9, 9, 9, 7};
        for (int i = 0; i < calls.length; i++) {
            House h = Check.begun("sema s 9;bolt b;task t 1 main{" + calls[i] + "log 1;}task u 1{log 2;}");
            Check.due("run(2) of " + calls[i], 2, h.run(2));
            Check.due("induced(0, 1) of " + calls[i], due[i], h.induced(0, 1));
            Check.due("task(0, 7) of " + calls[i], due[i], h.task(0, 7));
            Check.due("count(3) of " + calls[i], 0, h.count(3));
            Check.due("count(5) of " + calls[i], 0, h.count(5));
            Check.due("count(2) of " + calls[i], 1, h.count(2));
        }
    }

    private static void reactions() {
        House h = Check.ran("task t 1 main{on any{log 1;}on 11{log 2;}if 1{on 12{log 3;}induce 11;log 4;}log 5;}", 20);
        Check.logs("that for it goes ahead of any", h, 2);
        h = Check.ran("task t 1 main{on 11{log 2;}if 1{on any{log 3;}induce 11;log 4;}log 5;}", 20);
        Check.logs("the inmost goes first", h, 3, 5);
        h = Check.ran("task t 1 main{on any{log 1;}if 1{on 11{induce 11;log 2;}induce 11;}log 5;}", 20);
        Check.logs("what it induces goes further out", h, 1);
        Check.due("count(4)", 2, h.count(4));
        Check.due("count(5)", 2, h.count(5));
        h = Check.ran("task t 1 main{on 3{on 4{log 1;}log 1/0;log 2;}log 6;induce 3;log 7;}", 20);
        Check.logs("an on in an on", h, 6, 1);
        h = Check.ran("task t 1 main{on 3{on 4{log 1/0;}log 1/0;log 2;}on 4{log 8;}induce 3;log 7;}", 20);
        Check.logs("none of the block that is over", h);
        Check.due("count(4)", 3, h.count(4));
        Check.due("count(5)", 2, h.count(5));
        Check.due("task(0, 6)", 1, h.task(0, 6));
        h = Check.ran("task t 1 main{on 11{}induce 11;log 7;}", 20);
        Check.due("an empty on", 1, h.count(2));
        Check.due("count(5)", 1, h.count(5));
    }

    private static void reactionsInPlace() {
        House h = Check.ran("var a;task t 1 main{while a<3{on any{log 10;}a=a+1;if a=2{induce 12;}log a;}log 9;}", 40);
        Check.logs("the while goes on", h, 1, 10, 3, 9);
        h = Check.ran("var a;proc p(){on 13{log 1;return 5;}induce 13;}proc q(){on 13{log 2;}induce 13;}"
            + "task t 1 main{a=do p();log a;a=do q();log a;}", 40);
        Check.logs("in a proc's place", h, 1, 5, 2, 0);
        h = Check.ran("task t 1 main{if 0{}else{on 11{log 1;}induce 11;}log 2;}", 40);
        Check.logs("in an else's place", h, 1, 2);
        h = Check.ran("task t 1 main{if 1{on 11{if 1{on 11{log 3;}induce 11;}log 4;}induce 11;}log 2;}", 40);
        Check.logs("a block in an on has its own", h, 3, 4, 2);
    }

    private static void signalsOutOfProcs() {
        House h = Check.begun("var a=1;proc p(){do q();log 1;}proc q(){if 1{on 12{}induce 11;}log 2;}task t 1 main{if 1{on 11{log 3;}a=do p();log 4;}log 5;}");
        h.run(20);
        Check.logs("out of two procs", h, 3, 5);
        Check.due("value(0), not changed", 1, h.value(0));
        Check.due("count(8)", 2, h.count(8));
        Check.due("count(9)", 2, h.count(9));
        h = Check.ran("proc p(){do q();}proc q(){induce 11;}task t 1 main{do p();}", 20);
        Check.due("task(0, 0)", 0, h.task(0, 0));
        Check.due("task(0, 8)", 0, h.task(0, 8));
        Check.due("count(9), its task ENDED", 2, h.count(9));
        h = Check.ran("proc p(){on 11{log 6;}do q();log 7;}proc q(){induce 11;}task t 1 main{do p();log 8;}", 20);
        Check.logs("the caller's reaction", h, 6, 8);
    }

    private static void changesNothing() {
        House h = Check.ran("var a=4;row r;sema s 9;sema u 0;task t 1 main{on any{log a;log size r;}make r 3;make r 21;}task v 2 main{on any{}give u,s;}"
            + "task w 3 main{on any{}a=1/0;}task x 4 main{on any{}at 5 start y;at 0 start y;}task y 5{}", 7);
        Check.logs("the row stays", h, 4, 3);
        Check.due("sema(0)", 9, h.sema(0));
        Check.due("sema(1), a list is given whole or not", 0, h.sema(1));
        h.run(3);
        Check.due("value(0)", 4, h.value(0));
        h = Check.ran("task x 1 main{on any{}at 5 start y;at 0 start y;}task y 5{}", 2);
        Check.due("schedule(1, 0, 0) stays", 5, h.schedule(1, 0, 0));
    }

    private static void signalsEver() {
        House h = Check.begun("task t 1 main{while 1{on any{}induce 11;}}");
        for (int i = 0; i < 15; i++) {
            Check.due("run(500)", 1, h.run(500));
        }
        h.begin();
        Check.due("run(500)", 1, h.run(500));
        Check.due("count(4), 4000 ever", 250, h.count(4));
        Check.due("run(1)", PearlHouse.FULL, h.run(1));
        Check.due("run(0), BAD goes first", PearlHouse.BAD, h.run(0));
        Check.due("count(1)", 500, h.count(1));
        Check.due("begin()", 1, h.begin());
        Check.due("run(1), ever", PearlHouse.FULL, h.run(1));
        h = Check.begun("task t 1 main{while 1{on any{}induce 11;}}");
        for (int i = 0; i < 15; i++) {
            h.run(500);
        }
        h.run(490);
        Check.due("run(500), what was done stays", PearlHouse.FULL, h.run(500));
        Check.due("count(1)", 8000, h.count(1));
    }

    private static void taskAnswers() {
        House h = Check.read("task t 4 main{log 1;start u;start u;start u;start u;start u;start u;prior t 7;log 1/0;}task u 9{log 2;}");
        Check.due("task(0, 0)", PearlHouse.STATE, h.task(0, 0));
        Check.due("task(9, 99), STATE goes first", PearlHouse.STATE, h.task(9, 99));
        h.begin();
        Check.due("task(-1, 0)", PearlHouse.NONE, h.task(-1, 0));
        Check.due("task(2, 99), NONE goes first", PearlHouse.NONE, h.task(2, 99));
        Check.due("task(0, -1)", PearlHouse.BAD, h.task(0, -1));
        Check.due("task(0, 9)", PearlHouse.BAD, h.task(0, 9));
        Check.due("task(1, 1), DORMANT", 0, h.task(1, 1));
        Check.due("task(1, 2), DORMANT", PearlHouse.NONE, h.task(1, 2));
        h.run(8);
        int[] due = {1, 7, 8, 0, 0, 1, 0, 0, 0};
        int[] dueOfU = {1, 9, 9, 3, 2, 1, 0, 0, 0};
        for (int what = 0; what <= 8; what++) {
            Check.due("task(0, " + what + ")", due[what], h.task(0, what));
            Check.due("task(1, " + what + ")", dueOfU[what], h.task(1, what));
        }
        h.run(2);
        Check.due("task(0, 7)", 4, h.task(0, 7));
        Check.due("task(0, 6)", 1, h.task(0, 6));
        Check.due("task(1, 3), begun anew", 2, h.task(1, 3));
        Check.due("task(1, 5)", 2, h.task(1, 5));
        Check.due("task(1, 6)", 1, h.task(1, 6));
        Check.due("run(9)", 2, h.run(9));
        Check.due("task(1, 5)", 4, h.task(1, 5));
        Check.due("task(1, 6)", 4, h.task(1, 6));
    }

    private static void values() {
        House h = Check.read("var a=-999999999;var b=999999999;var c;task t 1 main{c=3;}");
        Check.due("value(0), no run", 0, h.value(0));
        h.begin();
        Check.due("value(0)", -999999999, h.value(0));
        Check.due("value(1)", 999999999, h.value(1));
        Check.due("value(2)", 0, h.value(2));
        h.run(1);
        Check.due("value(2)", 3, h.value(2));
        Check.due("value(3)", 0, h.value(3));
        Check.due("value(-1)", 0, h.value(-1));
    }

    private static void logged() {
        House h = Check.begun("var a;task t 1 main{while a<205{a=a+1;log a;}}");
        Check.due("logged(0)", 0, h.logged(0));
        h.run(500);
        h.run(500);
        Check.due("count(3)", 205, h.count(3));
        Check.due("logged(0)", 1, h.logged(0));
        Check.due("logged(199)", 200, h.logged(199));
        Check.due("logged(200)", 0, h.logged(200));
        Check.due("logged(-1)", 0, h.logged(-1));
        Check.due("logged(0), no run", 0, Check.read("").logged(0));
    }

    private static void induced() {
        House h = Check.read("var a;task s 9{}task t 1 main{while a<105{on any{a=a+1;}log 5;induce 10+a/100;}}");
        Check.due("induced(0, 0), no run", PearlHouse.NONE, h.induced(0, 0));
        h.begin();
        Check.due("induced(0, 0), none yet", PearlHouse.NONE, h.induced(0, 0));
        h.run(500);
        Check.due("count(4)", 105, h.count(4));
        Check.due("induced(0, 0)", 1, h.induced(0, 0));
        Check.due("induced(0, 1)", 10, h.induced(0, 1));
        Check.due("induced(0, 2)", 3, h.induced(0, 2));
        Check.due("induced(99, 1)", 10, h.induced(99, 1));
        Check.due("induced(100, 1)", PearlHouse.NONE, h.induced(100, 1));
        Check.due("induced(-1, 1)", PearlHouse.NONE, h.induced(-1, 1));
        Check.due("induced(0, -1)", PearlHouse.NONE, h.induced(0, -1));
        Check.due("induced(0, 3)", PearlHouse.NONE, h.induced(0, 3));
        Check.due("task(1, 7)", 11, h.task(1, 7));
    }

    private static void counts() {
        House h = Check.read("sema s 0;irpt i;proc p(){on 4{}log 1/0;}proc q(){}task t 1 main{do p();do q();log 7;all 5 start u;when i go u;start v;ask s;}"
            + "task u 2{log 1;}task v 3{hold v;log 2;}");
        Check.due("count(0)", PearlHouse.STATE, h.count(0));
        Check.due("count(10), STATE goes first", PearlHouse.STATE, h.count(10));
        h.begin();
        Check.due("count(-1)", PearlHouse.BAD, h.count(-1));
        Check.due("count(10)", PearlHouse.BAD, h.count(10));
        h.run(8);
        int[] due = {8, 8, 8, 1, 1, 1, 2, 1, 2, 2};
        for (int what = 0; what <= 9; what++) {
            Check.due("count(" + what + ")", due[what], h.count(what));
        }
    }

    private static void beginAgain() {
        House h = Check.begun("sema s 0;bolt b;irpt i;proc q(){}proc p(){on 11{ask s;}induce 11;}task t 1 main{do q();pull i;start t;start t;start t;start t;enter b;do p();}"
            + "task u 2 main{hold u;log 1;}task v 3 main{ask s;}task w 4{log 1;}");
        h.run(20);
        Check.due("task(0, 3)", 3, h.task(0, 3));
        Check.due("task(0, 4)", 1, h.task(0, 4));
        Check.due("task(0, 8)", 1, h.task(0, 8));
        Check.due("task(0, 7)", 11, h.task(0, 7));
        Check.due("bolt(0, 2)", 1, h.bolt(0, 2));
        Check.due("irpt(0, 2)", 1, h.irpt(0, 2));
        Check.due("begin()", 3, h.begin());
        int[] due = {1, 1, 2, 0, 0, 1, 0, 0, 0};
        for (int what = 0; what <= 8; what++) {
            Check.due("task(0, " + what + ")", due[what], h.task(0, what));
        }
        Check.due("task(1, 0)", 1, h.task(1, 0));
        Check.due("task(2, 0)", 1, h.task(2, 0));
        Check.due("task(3, 0)", 0, h.task(3, 0));
        Check.due("bolt(0, 1)", 0, h.bolt(0, 1));
        Check.due("bolt(0, 2)", 0, h.bolt(0, 2));
        Check.due("irpt(0, 2)", 0, h.irpt(0, 2));
        Check.due("waits(2, 0, 0)", PearlHouse.NONE, h.waits(2, 0, 0));
        for (int what = 0; what <= 9; what++) {
            Check.due("count(" + what + ")", what == 7 ? 3 : 0, h.count(what));
        }
        h.run(20);
        Check.due("count(9)", 1, h.count(9));
        Check.feed(h, "task a 1{log 1;}task b 1 main{log 2;}task c 1{log 3;}");
        h.module();
        Check.due("begin() of another module", 1, h.begin());
        Check.due("task(0, 0)", 0, h.task(0, 0));
        Check.due("task(0, 3)", 0, h.task(0, 3));
    }

    /** As many of each sort as there may be. */
    private static void fullHouse() {
        StringBuilder text = new StringBuilder();
        for (int i = 0; i < 8; i++) {
            text.append("var v").append(i).append('=').append(10 + i).append(';');
            text.append("task t").append(i).append(" 1 main{v").append(i).append("=v").append(i).append("+1;start t").append(7 - i).append(";enter b3;}");
        }
        for (int i = 0; i < 4; i++) {
            text.append("row r").append(i).append(";sema s").append(i).append(' ').append(i).append(";bolt b").append(i).append(";irpt i").append(i).append(';');
            text.append("out o").append(i).append(';');
        }
        for (int i = 0; i < 6; i++) {
            text.append("proc p").append(i).append("(x,y,z){return x*100+y*10+z;}");
        }
        House h = Check.begun(text.toString());
        h.run(24);
        for (int i = 0; i < 8; i++) {
            Check.due("value(" + i + ")", 11 + i, h.value(i));
            Check.due("bolt(3, " + (2 + i) + ")", 1, h.bolt(3, 2 + i));
        }
        Check.due("bolt(3, 1)", 8, h.bolt(3, 1));
        Check.due("bolt(3, 10)", PearlHouse.BAD, h.bolt(3, 10));
        h = Check.ran("row a;row b;row c;row d;sema e 0;sema f 0;sema g 0;sema h 8;irpt i;irpt j;irpt k;irpt l;out m;out n;out o;out p;bolt q;bolt r;bolt s;bolt t;var v;"
            + "proc z(x,y,w){return x*100+y*10+w;}proc y1(){}proc y2(){}proc y3(){}proc y4(){}proc y5(x){return -x;}"
            + "task u 1 main{on 8{log 8;}make a 1;make b 1;make c 1;make d 1;a[0]=1;b[0]=2;c[0]=3;d[0]=4;log a[0]*1000+b[0]*100+c[0]*10+d[0];make a 1;log a[0]+b[0]+c[0]+d[0];make d 2;d[1]=5;"
            + "disable l;pull l;put p 6;reserve t;ask h;if 1{on 8{}give h,h,h;log 99;}ask h,h,h,h;log 7;give h,h,h,h;v=do y5(7);log v;v=do z(1,2,3);log v;give h;give h;give h;}", 99);
        Check.logs("the last of each sort", h, 1234, 9, 7, -7, 123, 8);
        Check.due("item(3, 1)", 5, h.item(3, 1));
        Check.due("item(0, 0)", 0, h.item(0, 0));
        Check.due("item(1, 0)", 2, h.item(1, 0));
        Check.due("item(2, 0)", 3, h.item(2, 0));
        Check.due("sema(3)", 9, h.sema(3));
        Check.due("sent(3, 0)", 6, h.sent(3, 0));
        Check.due("bolt(3, 0)", 0, h.bolt(3, 0));
        Check.due("irpt(3, 1)", 1, h.irpt(3, 1));
        h.begin();
        Check.due("irpt(3, 0)", 1, h.irpt(3, 0));
        Check.due("irpt(3, 1)", 0, h.irpt(3, 1));
        h = Check.begun("sema e 0;sema f 0;sema g 0;sema h 0;task t 1 main{ask h;log 1;}");
        Check.due("run(9), the last sema has none", 0, h.run(9));
        h = Check.begun("var v;in a;in b;in c;in d;task t 1 main{take d v;log v;}");
        Check.due("send(3, 5)", 1, h.send(3, 5));
        h.run(9);
        Check.logs("the last in", h, 5);
    }

    /** As many nodes as there may be, and as deep. */
    private static void longText() {
        House h = Check.begun("task t 1 main{" + Check.times(199, "log 1;") + "log 1" + Check.times(100, "+1") + ";}");
        h.run(500);
        Check.due("logged(198)", 1, h.logged(198));
        Check.due("logged(199)", 101, h.logged(199));
        String text = "log 1<2+3*(1<2+3*(1<2+3*(1<2+3*(1<2+3*(1<2+3*(1<2+3*(1<2+3*(1<2+3*(1<2+3*(1<2+3*(4)))))))))));";
        Check.logs("deep", Check.ran("task t 1 main{" + text + "}", 1), 1);
        Check.logs("deep", Check.ran("task t 1 main{log 1+(1+(1+(1+(1+(1+(1+(1+(1+(1+(1+(1)))))))))));}", 1), 12);
        Check.logs("deep", Check.ran("task t 1 main{log " + Check.times(11, "-") + "5;}", 1), -5);
    }
}
