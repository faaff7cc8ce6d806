// Terms, 2 RUNS: how a run begins, grains, statements and expressions. Each test says the sentence that it holds.
public final class GrainsTest extends Check {
    private static final int LEAST = -2147483648, MOST = 2147483647;
    private static final String LEAST_E = "(-2147483*1000-648)", MOST_E = "(2147483*1000+647)";

    public static void main(String[] args) throws IllegalAccessException {
        all(GrainsTest.class);
    }

    @Holds("Terms: 2 RUNS go by GRAINS; TIME is 0 at first.")
    private static void timeIs0AtFirst() {
        House h = begun("task t 1 main{log time;log time;}");
        due(0, h.count(0));
        due(0, h.count(1));
        h.run(1);
        due(1, h.count(0));
        due(1, h.count(1));
        h.run(1);
        logs("TIME", h, 0, 1);
        h.begin();
        due(0, h.count(0));
        due(0, h.count(1));
        h.run(1);
        logs("TIME of the next run", h, 0);
    }

    @Holds("Terms: Numbers are ints.")
    private static void numbersAreInts() {
        House h = begun("var a;var b;var c;row r;in n;out o;proc p(x){return x;}task t 1 main{take n a;take n b;c=a+b;log a;log b;put o a;put o b;make r 2;r[0]=a;r[1]=b;"
            + "a=do p(b);b=do p(r[0]);log c;log r[0]=b;}");
        h.send(0, LEAST);
        h.send(0, MOST);
        h.run(50);
        logs("the least and the most", h, LEAST, MOST, -1, 1);
        due(LEAST, h.sent(0, 0));
        due(MOST, h.sent(0, 1));
        due(LEAST, h.item(0, 0));
        due(MOST, h.item(0, 1));
        due(MOST, h.value(0));
        due(LEAST, h.value(1));
    }

    @Holds("Terms: A TASK is 0 DORMANT, 1 READY, 2 HELD, 3 WAITING, 4 WAITING and held.")
    private static void statesHaveNumbers() {
        House h = ran("sema s 0;task a 5 main{hold c;hold e;log state a;log state b;log state c;log state d;log state e;}task b 1{log 1;}task c 9 main{log 1;}"
            + "task d 1 main{ask s;}task e 2 main{ask s;}", 8);
        int[] due = {1, 0, 2, 3, 4};
        for (int t = 0; t < 5; t++) {
            due(due[t], h.task(t, 0));
        }
        h.run(1);
        logs("states", h, 1, 0, 2, 3, 4);
    }

    @Holds("Terms: Its PRIORITY (1 .. 9, 1 goes first) is as told, when it begins.")
    private static void priorityIsAsTold() {
        StringBuilder text = new StringBuilder();
        int[] priorities = {9, 1, 8, 2, 7, 3, 5, 4};
        for (int t = 0; t < 8; t++) {
            text.append("task t").append(t).append(' ').append(priorities[t]).append(" main{log ").append(priorities[t]).append(";}");
        }
        House h = begun(text.toString());
        for (int t = 0; t < 8; t++) {
            due(priorities[t], h.task(t, 1));
        }
        h.run(8);
        logs("1 goes first", h, 1, 2, 3, 4, 5, 7, 8, 9);
        h = begun("task t 4 main{prior t 9;start t;log 1;}");
        h.run(2);
        due(9, h.task(0, 1));
        h.run(1);
        due(2, h.task(0, 5));
        due(4, h.task(0, 1));
    }

    private static House usedUp() {
        House h = begun("var a=7;var b;var c=-3;row r;sema s 3;sema u 0;bolt k;bolt m;irpt i;in n;out o;proc p(){log 6;}"
            + "task t 1 main{a=1;b=2;c=4;make r 2;ask s;give u;reserve k;enter m;put o 1;log 5;disable i;after 99 start v;do p();if 1{on 11{}induce 11;}hold t;end;}task v 2{log 1;}");
        h.send(0, 3);
        h.run(14);
        h.trigger(0);
        h.run(3);
        return h;
    }

    @Holds("Terms: A run begins with all vars as told (0), rows NONE, semas as told, bolts free, irpts enabled,")
    private static void runBeginsWithThingsAsTold() {
        House h = usedUp();
        due(1, h.value(0));
        due(0, h.irpt(0, 0));
        due(1, h.irpt(0, 1));
        for (int i = 0; i < 2; i++) {
            due(1, h.begin());
            due(7, h.value(0));
            due(0, h.value(1));
            due(-3, h.value(2));
            due(-1, h.item(0, NONE));
            due(3, h.sema(0));
            due(0, h.sema(1));
            due(NONE, h.bolt(0, 0));
            due(0, h.bolt(1, 1));
            due(0, h.bolt(1, 2));
            due(1, h.irpt(0, 0));
            due(0, h.irpt(0, 1));
            due(0, h.irpt(0, 2));
        }
        due(1, h.trigger(0));
    }

    @Holds("Terms: ins and outs, LOG and INDUCED empty, all counts of the run 0,")
    private static void runBeginsEmpty() {
        House h = usedUp();
        due(1, h.sent(0, NONE));
        due(2, h.count(3));
        due(1, h.count(4));
        due(1, h.count(6));
        due(1, h.begin());
        due(0, h.sent(0, NONE));
        due(0, h.sent(0, 0));
        due(0, h.logged(0));
        due(NONE, h.induced(0, 0));
        for (int what = 0; what <= 9; what++) {
            due(what == 7 ? 1 : 0, h.count(what));
        }
        int[] due = {1, 1, 1, 0, 0, 1, 0, 0, 0};
        for (int what = 0; what <= 8; what++) {
            due(due[what], h.task(0, what));
        }
        due(NONE, h.schedule(1, 0, 0));
        due(1, h.send(0, 8));
    }

    @Holds("Terms: ins and outs, LOG and INDUCED empty, all counts of the run 0,")
    private static void countsOfEachTaskBegin() {
        House h = begun("sema s 0;irpt i;irpt j;irpt k;irpt l;proc p(){induce 11;}proc q(){on 11{ask s;}do p();}task m 5 main{pull l;disable l;pull l;start u;start u;start u;start u;start u;start u;}"
            + "task u 1{if s1{do q();}s1=1;}var s1;task w 6 main{log 1;}");
        h.run(30);
        int[] due = {3, 1, 1, 3, 1, 2, 1, 11, 1};
        for (int what = 0; what <= 8; what++) {
            due(due[what], h.task(1, what));
        }
        due(1, h.irpt(3, 1));
        due(1, h.irpt(3, 2));
        due(2, h.begin());
        for (int what = 0; what <= 8; what++) {
            due(what == 2 ? NONE : 0, h.task(1, what));
        }
        due(1, h.irpt(3, 0));
        due(0, h.irpt(3, 1));
        due(0, h.irpt(3, 2));
        due(NONE, h.waits(2, 0, 0));
        due(NONE, h.ring(0));
    }

    @Holds("Terms: all main tasks started, as they stand.")
    private static void mainTasksAreStarted() {
        House h = begun("task a 5 main{log 1;}task b 5{log 2;}task c 5 main{log 3;}task d 5 main{log 4;}");
        int[] due = {1, 0, 1, 1};
        for (int t = 0; t < 4; t++) {
            due(due[t], h.task(t, 0));
            due(due[t], h.task(t, 5));
            due(0, h.task(t, 3));
        }
        h.run(4);
        logs("as they stand", h, 1, 3, 4);
    }

    @Holds("Terms: A GRAIN: the schedules due by TIME act (3).")
    private static void dueSchedulesActFirst() {
        House h = begun("task a 5 main{at 3 start b;log 1;log 2;log 3;log 4;}task b 1{log 10+time;}");
        h.run(3);
        due(0, h.task(1, 0));
        due(3, h.count(0));
        h.run(1);
        logs("b is started and goes first in the grain of TIME 3", h, 1, 2, 13);
        due(1, h.task(1, 6));
    }

    @Holds("Terms: Then of the READY tasks the PROCESSORS (1 .. 3) first ones, by PRIORITY, then as they became READY, do one S each, in this order")
    private static void processorsFirstOnesDoOneStatementEach() {
        String text = "task a 5 main{log 1;log 2;}task b 4 main{log 3;log 4;}task c 5 main{log 5;log 6;}task d 1 main{log 7;log 8;}";
        House h = begun(text, 1);
        h.run(3);
        logs("one processor", h, 7, 8, 3);
        h = begun(text, 2);
        h.run(3);
        logs("two processors", h, 7, 3, 8, 4, 1, 5);
        h = begun(text, 3);
        h.run(2);
        logs("three processors", h, 7, 3, 1, 8, 4, 2);
        h.run(2);
        logs("fewer tasks than processors", h, 7, 3, 1, 8, 4, 2, 5, 6);
        due(4, h.count(1));
        due(8, h.count(2));
    }

    @Holds("Terms: Then of the READY tasks the PROCESSORS (1 .. 3) first ones, by PRIORITY, then as they became READY, do one S each, in this order")
    private static void asTheyBecameReady() {
        House h = ran("task a 1 main{start d;start c;hold b;go b;}task b 5 main{log 2;log 2;}task c 5{log 3;log 3;}task d 5{log 4;}", 20);
        logs("as they were started and gone on with, each to its end", h, 4, 3, 3, 2, 2);
        h = ran("sema s 0;task a 5 main{ask s;log 1;}task b 5 main{go c;log 2;log 3;}task c 1 main{hold c;give s;}", 20);
        logs("one that is served becomes READY then", h, 2, 3, 1);
        h = begun("task a 5 main{log 1;}task b 5 main{log 2;}task m 1 main{start n;log 9;}task n 1{log 8;}", 3);
        h.run(1);
        logs("one that becomes READY in a grain does nothing in it", h, 1, 2);
        h.run(1);
        logs("but in the next", h, 1, 2, 9, 8);
    }

    @Holds("Terms: (one that is READY no more when its turn comes does none).")
    private static void oneThatIsReadyNoMore() {
        House h = begun("task a 1 main{hold b;log 1;}task b 2 main{log 2;}task c 3 main{log 3;}", 2);
        h.run(1);
        logs("b is held, c has no processor", h);
        due(1, h.count(2));
        h.run(1);
        logs("then c has one", h, 1, 3);
        h = begun("task a 1 main{end b;log 1;}task b 2 main{log 2;}task c 3 main{log 3;}", 3);
        h.run(1);
        logs("b has ended, c is third", h, 3);
        due(2, h.count(2));
    }

    @Holds("Terms: Then TIME is one more.")
    private static void timeIsOneMore() {
        for (int processors = 1; processors <= 3; processors++) {
            House h = begun("task a 1 main{while 1{}}task b 1 main{while 1{}}task c 1 main{while 1{}}", processors);
            for (int i = 1; i <= 4; i++) {
                due(1, h.run(1));
                due(i, h.count(0));
                due(i, h.count(1));
                due((long) i * processors, h.count(2));
            }
        }
        House h = begun("task a 1 main{log time;}task b 2 main{log time;}", 2);
        h.run(1);
        logs("one TIME for all S of a grain", h, 0, 0);
    }

    @Holds("Terms: With no READY task, once the due ones have acted, no S is done, and TIME becomes that of the next schedule (a GRAIN, too; that acts in the next one);")
    private static void timeBecomesThatOfTheNextSchedule() {
        House h = begun("task a 1 main{at 50 start b;at 20 start b;at 70 start c;}task b 1{log time;}task c 1{log time;}");
        due(1, h.run(3));
        due(3, h.count(0));
        due(1, h.run(1));
        due(20, h.count(0));
        due(4, h.count(1));
        due(3, h.count(2));
        due(0, h.task(1, 0));
        due(2, h.count(6));
        due(1, h.run(1));
        due(21, h.count(0));
        due(4, h.count(2));
        due(1, h.run(1));
        due(70, h.count(0));
        due(1, h.run(1));
        due(2, h.run(1));
        due(7, h.count(1));
        due(71, h.count(0));
        logs("when they act", h, 20, 70);
    }

    @Holds("Terms: With no READY task, once the due ones have acted, no S is done, and TIME becomes that of the next schedule (a GRAIN, too; that acts in the next one);")
    private static void dueOnesActAlsoWhereNoneBecomesReady() {
        House h = begun("task a 1 main{at 5 start e;at 5 go e;at 9 start f;}task e 1{}task f 1{}");
        due(1, h.run(4));
        due(5, h.count(0));
        due(0, h.task(1, 5));
        due(1, h.run(1));
        due(9, h.count(0));
        due(1, h.task(1, 5));
        due(0, h.task(2, 5));
        due(2, h.run(1));
        due(1, h.task(2, 5));
        due(1, h.task(2, 6));
        due(9, h.count(0));
        due(5, h.count(1));
    }

    @Holds("Terms: without one (by irpts alone is none) the run is STILL (ENDED, if all are DORMANT), and no GRAIN is done.")
    private static void stillOrEnded() {
        String[] texts = {"task a 1 main{log 1;}", "", "task a 1{}", "task a 1{log 1;}task b 1 main{}", "irpt i;task a 1 main{when i start a;}"};
        for (String text : texts) {
            House h = begun(text);
            due("ENDED: " + text, 2, h.run(500));
            int grains = h.count(1);
            due("ENDED again: " + text, 2, h.run(1));
            due(grains, h.count(1));
            due(grains, h.count(0));
        }
        texts = new String[] {"sema s 0;task a 1 main{ask s;}", "task a 1 main{hold a;log 1;}", "sema s 0;task a 1 main{ask s;}task b 2 main{hold a;}task c 1{log 1;}",
            "irpt i;task a 1 main{when i go a;hold a;log 1;}"};
        for (String text : texts) {
            House h = begun(text);
            due("STILL: " + text, 0, h.run(500));
            due(h.count(2), h.count(1));
            due(h.count(2), h.count(0));
            due("STILL again: " + text, 0, h.run(500));
            due(h.count(2), h.count(1));
        }
    }

    @Holds("Terms: if, while: the E is worked, that is the S; then what stands in the BLOCK (not 0: the first one, the while's; 0: the else's), behind it on (the while again).")
    private static void ifsAndWhiles() {
        House h = begun("task t 1 main{if 1{log 1;}else{log 2;}if 0{log 3;}else{log 4;}if -1{log 5;}if 0{log 6;}log 7;}");
        int[] next = {0, 1, 3, 5, 6, 7, 8, 10};
        for (int s : next) {
            due(s, h.task(0, 2));
            h.run(1);
        }
        due(NONE, h.task(0, 2));
        logs("if", h, 1, 4, 5, 7);
        h = begun("var a=2;task t 1 main{while a{a=a-1;log a;}while 0{log 9;}while a<0{log 9;}log 8;}");
        next = new int[] {0, 1, 2, 0, 1, 2, 0, 3, 5, 7};
        for (int s : next) {
            due(s, h.task(0, 2));
            h.run(1);
        }
        due(0, h.task(0, 0));
        logs("while", h, 1, 0, 8);
        due(10, h.count(2));
    }

    @Holds("Terms: Of do: its E are worked, the BLOCK of the proc begins; when it is over (by return, or its end: 0) the NAME gets the number.")
    private static void procs() {
        House h = begun("var a=9;var b=4;proc p(x){b=1;if x{return x*2;}b=2;}task t 1 main{a=do p(b+3);log a;a=5;a=do p(0);log a;do p(8);log a;}");
        h.run(3);
        due(9, h.value(0));
        due(1, h.task(0, 8));
        h.run(1);
        due(14, h.value(0));
        due(1, h.value(1));
        due(0, h.task(0, 8));
        h.run(50);
        logs("by return, by its end, without a NAME", h, 14, 0, 0);
        h = ran("var a;proc p(x){x=do q(x);log x;x=do q(x+1);return x;}proc q(x){x=x*10;return x;}task t 1 main{a=do p(3);log a;}", 50);
        logs("each proc under way has its own PARAMETERS, a PARAMETER gets the number", h, 30, 310);
        h = ran("var a=1;proc f(n){if n<2{return 1;}a=do f(n-1);return a*n;}task t 1 main{a=do f(6);log a;}", 90);
        logs("a proc in itself", h, 720);
        h = ran("var a=3;proc q(){return 5;}proc p(){do q();}task t 1 main{a=do p();log a;}", 20);
        logs("a number goes one proc far", h, 0);
    }

    @Holds("Terms: An S that has nothing behind it in its BLOCK lets that be over at once, behind all that it does (what an irpt lets act, too);")
    private static void lastStatementLetsItsBlockBeOver() {
        House h = begun("task t 1 main{if 1{while 1{if 1{log 1;}}}}");
        h.run(4);
        due(1, h.task(0, 2));
        h = begun("proc p(){if 1{q1=1;}}proc q(){do p();}var q1;task t 1 main{if 1{do q();}}");
        h.run(4);
        due(2, h.task(0, 8));
        h.run(1);
        due(0, h.task(0, 0));
        due(2, h.count(9));
        h = begun("proc p(x){" + times(10, "if 1{") + "if x{do p(x-1);}" + times(11, "}") + "task t 1 main{" + times(11, "if 1{") + "do p(7);" + times(12, "}"));
        h.run(106);
        due(1, h.task(0, 0));
        due(8, h.task(0, 8));
        h.run(1);
        due(0, h.task(0, 0));
        due(8, h.count(9));
        h = begun("irpt i;task t 1 main{when i start t;pull i;}");
        h.run(2);
        due(1, h.task(0, 0));
        due(2, h.task(0, 5));
        due(0, h.task(0, 3));
        due(0, h.task(0, 4));
        h = begun("task t 1 main{hold t;}");
        h.run(1);
        due(0, h.task(0, 0));
        h = begun("irpt i;task t 1 main{disable i;pull i;when i start t;enable i;}");
        h.run(4);
        due(2, h.task(0, 5));
        due(1, h.task(0, 0));
    }

    @Holds("Terms: a BLOCK without S is over as it begins (in the S that begins it);")
    private static void blocksWithoutStatements() {
        House h = begun("var a=5;proc e(){}proc f(x){on 1{log 1;}}task t 1 main{if 1{}a=do e();do f(1);if 0{}else{}while a<1{if 1{on any{}}a=a+1;}if 1{on 4{}log 1/0;}if 1{}}");
        int[] next = {1, 2, 3, 4, 5, 6, 7, 5, 8, 9, 10};
        for (int s : next) {
            due(s, h.task(0, 2));
            due(0, h.task(0, 8));
            h.run(1);
        }
        due(0, h.task(0, 0));
        due(2, h.count(8));
        due(2, h.count(9));
        due(1, h.value(0));
        due(11, h.count(2));
        h = ran("task t 1 main{while 1{}}", 7);
        due(7, h.count(2));
        due(0, h.task(0, 2));
        due(0, ran("var a=5;proc e(){}task t 1 main{a=do e();}", 1).value(0));
    }

    @Holds("Terms: a task whose BLOCK is over ENDS (at once as it begins, without S; begin() counts it not).")
    private static void tasksWithoutStatements() {
        House h = read("task a 1 main{}task b 1 main{on any{log 1;}}task c 1 main{log 1;}task d 1{}");
        due(1, h.begin());
        for (int t = 0; t < 2; t++) {
            due(0, h.task(t, 0));
            due(1, h.task(t, 5));
            due(1, h.task(t, 6));
        }
        due(0, h.task(2, 6));
        h.run(1);
        due(0, h.task(2, 0));
        due(1, h.task(2, 6));
        due(0, h.task(3, 5));
        h = ran("task e 1{}task a 2 main{start e;start e;start e;start e;start e;log state e;}", 6);
        due(5, h.task(0, 5));
        due(5, h.task(0, 6));
        due(0, h.task(0, 3));
        due(0, h.task(0, 4));
        logs("state", h, 0);
    }

    @Holds("Terms: An E: from the left;")
    private static void fromTheLeft() {
        House h = ran("task t 1 main{log 10-3-2;log 100/10/5;log 100/10*5;log 7*3%5;log 7%4*3;log 2-3+4;log 1-(2-3);log -2*3;log -2-3;log 17%10/3;}", 20);
        logs("from the left", h, 5, 2, 50, 1, 9, 3, 2, -6, -5, 2);
        String[] texts = {"log 1/0+r[0];", "log r[0]+1/0;", "log (1/0)<r[0];", "log size r=1/0;", "log 1/0*" + MOST_E + "*2;", "log " + MOST_E + "*2*(1/0);", "log r[1/0];",
            "log 5%0-size r;"};
        int[] due = {4, 1, 4, 1, 4, 5, 4, 4};
        for (int i = 0; i < texts.length; i++) {
            due("signal of " + texts[i], due[i], ran("row r;task t 1 main{" + texts[i] + "}", 1).induced(0, 1));
        }
    }

    @Holds("Terms: what is worked out of 32 bits induces 5;")
    private static void outOf32Bits() {
        House h = ran("task t 1 main{log " + MOST_E + ";log " + LEAST_E + ";log " + MOST_E + "-1+1;log -" + MOST_E + "-1;log " + LEAST_E + "%-1;log 65536*-32768;log 46341*-46340;"
            + "log " + LEAST_E + "/1;log " + LEAST_E + "*1;log -(" + LEAST_E + "+1);}", 20);
        logs("the ends of the span", h, MOST, LEAST, MOST, LEAST, 0, LEAST, -2147441940, LEAST, LEAST, MOST);
        String[] over = {MOST_E + "+1", LEAST_E + "-1", "1+" + MOST_E, "-1+" + LEAST_E, "0-" + LEAST_E, "-" + LEAST_E, LEAST_E + "/-1", LEAST_E + "*-1", "65536*32768", "46341*46341",
            "999999999*999999999", "(" + MOST_E + "+1)*0", "(" + MOST_E + "+1)-1", "1<" + MOST_E + "+1", "999999999*999999999*0", LEAST_E + "+" + LEAST_E, MOST_E + "*" + MOST_E, LEAST_E + "*" + LEAST_E};
        for (String e : over) {
            h = ran("task t 1 main{log " + e + ";}", 1);
            due("signal of " + e, 5, h.induced(0, 1));
            due("numbers logged of " + e, 0, h.count(3));
        }
    }

    @Holds("Terms: = < > give 1, 0;")
    private static void comparisonsGive1And0() {
        House h = ran("task t 1 main{log 1=1;log 1=2;log 1<2;log 2<2;log 3<2;log 2>1;log 2>2;log 2>3;log -1<1;log -1>1;log " + LEAST_E + "<" + MOST_E + ";log " + LEAST_E + ">" + MOST_E + ";log "
            + LEAST_E + "=" + MOST_E + ";}", 20);
        logs("comparisons", h, 1, 0, 1, 0, 0, 1, 0, 0, 1, 0, 1, 0, 0);
    }

    @Holds("Terms: / % cut toward 0;")
    private static void cutTowardZero() {
        House h = ran("task t 1 main{log 7/2;log -7/2;log 7/-2;log -7/-2;log 7%2;log -7%2;log 7%-2;log -7%-2;log 0/5;log 0%-5;log 1/2;log -1/2;log -1%2;log 6/-3;log -6%3;}", 20);
        logs("cut toward 0", h, 3, -3, -3, 3, 1, -1, 1, -1, 0, 0, 0, 0, -1, -2, 0);
    }

    @Holds("Terms: size: how many items; time: TIME; state: of a task.")
    private static void sizeTimeState() {
        House h = ran("row r;task t 1 main{make r 0;log size r;make r 1;log size r;make r 20;log size r;log time;after 93 go t;hold t;log time;log state t;log state u;}task u 1{}", 20);
        logs("size, time, state", h, 0, 1, 20, 6, 100, 1, 0);
    }

    @Holds("Terms: make: the row has a new array of so many items, 0 at first;")
    private static void makes() {
        House h = ran("row r;row q;task t 1 main{make r 3;r[0]=4;r[2]=5;same q r;make r 3;log r[0]+r[1]+r[2];log q[0];make q 20;log size r;log q[19];make q 0;log size q;make r 2;r[1]=1;make r 2;log r[1];}", 30);
        logs("new arrays", h, 0, 4, 3, 0, 0, 0);
        due(0, h.one(0, 1));
        String names = "abcd";
        for (int first = 0; first < 4; first++) {
            StringBuilder text = new StringBuilder("row a;row b;row c;row d;task t 1 main{");
            for (int i = 0; i < 4; i++) {
                char row = names.charAt((first + i) % 4);
                text.append("make ").append(row).append(" 3;").append(row).append("[2]=").append((first + i) % 4 + 5).append(';');
            }
            char again = names.charAt(first);
            text.append("make ").append(again).append(" 2;").append(again).append("[1]=9;}");
            h = ran(text.toString(), 10);
            for (int row = 0; row < 4; row++) {
                due(row == first ? 2 : 3, h.item(row, NONE));
                due(row == first ? 0 : row + 5, h.item(row, 2));
                due(row == first ? 9 : 0, h.item(row, 1));
            }
        }
    }

    @Holds("Terms: same: it has that of the second one;")
    private static void sames() {
        House h = ran("row a;row b;row c;task t 1 main{make a 2;same b a;b[1]=7;log a[1];a[0]=3;log b[0];make a 1;log size b;same b b;log b[1];same c b;same b a;log size b;log c[1];}", 30);
        logs("one array of two rows", h, 7, 3, 2, 7, 1, 7);
        due(1, h.one(0, 1));
        due(0, h.one(1, 2));
    }

    @Holds("Terms: lose: it has NONE.")
    private static void loses() {
        House h = ran("row a;row b;task t 1 main{make a 2;same b a;a[1]=6;lose a;lose a;log b[1];}", 30);
        logs("the other one has it still", h, 6);
        due(-1, h.item(0, NONE));
        due(2, h.item(1, NONE));
        due(0, h.count(4));
    }

    @Holds("Terms: log: the number is LOGGED (the first 200 are kept).")
    private static void logsKeep200() {
        House h = begun("var a;task t 1 main{log -5;while a<250{a=a+1;log a;}}");
        h.run(500);
        h.run(98);
        due(200, h.count(3));
        due(199, h.logged(199));
        h.run(3);
        due(201, h.count(3));
        due(199, h.logged(199));
        due(0, h.logged(200));
        h.run(500);
        due(251, h.count(3));
        due(-5, h.logged(0));
        due(1, h.logged(1));
        due(199, h.logged(199));
        due(0, h.logged(200));
        due(0, h.logged(250));
    }
}
