// Terms, 2 RUNS: the signals, where they go and what is told of them. Each test says the sentence that it holds.
public final class SignalsTest extends Check {
    private static final String MOST = "(2147483*1000+647)", LEAST = "(-2147483*1000-648)";
    private static final String HEAD = "var v=5;row r;row q;sema s 9;sema z 0;bolt b;irpt i;out o;proc p(x){log x;}task d 9{end;}task w 1 main{ask z;}";

    public static void main(String[] args) throws IllegalAccessException {
        all(SignalsTest.class);
    }

    /** The last of these statements induces the signal, those ahead of it none, and its task ends. */
    private static void induces(int signal, String statements) {
        House h = begun(HEAD + "task t 2 main{" + statements + "log 77;}");
        h.run(300);
        due("SIGNALS of " + statements, 1, h.count(4));
        due("SIGNAL of " + statements, signal, h.induced(0, 1));
        due("task of " + statements, 2, h.induced(0, 0));
        due("end of " + statements, 0, h.task(2, 0));
        due("log of " + statements, 0, h.count(3));
    }

    private static void inducesNothing(String statements) {
        House h = begun(HEAD + "task t 2 main{" + statements + "log 77;}");
        h.run(300);
        due("SIGNALS of " + statements, 0, h.count(4));
        due("log of " + statements, 1, h.count(3));
    }

    @Holds("Terms: SIGNALS, by the machine's words: 1 NONE where a row's array is wanted,")
    private static void signal1() {
        induces(1, "v=size r;");
        induces(1, "v=r[0];");
        induces(1, "v=r[-1];");
        induces(1, "r[0]=1;");
        induces(1, "r[99]=1;");
        induces(1, "make r 1;lose r;v=size r;");
        induces(1, "make r 1;make q 1;lose q;r[q[0]]=1;");
        inducesNothing("make r 1;v=size r;v=r[0];r[0]=1;");
    }

    @Holds("Terms: 2 no such item,")
    private static void signal2() {
        for (String i : new String[] {"3", "-1", "20", MOST, LEAST}) {
            induces(2, "make r 3;v=r[" + i + "];");
            induces(2, "make r 3;r[" + i + "]=1;");
        }
        induces(2, "make r 0;v=r[0];");
        induces(2, "make r 20;r[20]=1;");
        induces(2, "make r 5;make q 9;make r 3;v=r[3];");
        inducesNothing("make r 3;v=r[0]+r[2];r[2]=1;make r 20;r[19]=1;make r 1;v=r[0];");
    }

    @Holds("Terms: 3 a size below 0 (above 20, too, and any, when 4000 arrays were made ever),")
    private static void signal3() {
        for (String size : new String[] {"-1", "21", MOST, LEAST}) {
            induces(3, "make r " + size + ";");
            induces(3, "make r 3;make r " + size + ";");
        }
        inducesNothing("make r 0;make r 20;make q 1;");
    }

    @Holds("Terms: 3 a size below 0 (above 20, too, and any, when 4000 arrays were made ever),")
    private static void fourThousandArraysEver() {
        House h = begun("row r;task t 1 main{if 1{on 3{}make r 21;}if 1{on 3{}make r -1;}while 1{" + times(50, "make r 1;") + "}}");
        for (int i = 0; i < 7; i++) {
            h.run(500);
        }
        h.run(4);
        h.begin();
        h.run(500);
        h.run(85);
        due(2, h.count(4));
        due(1, h.item(0, NONE));
        h.run(1);
        due(3, h.count(4));
        due(3, h.induced(2, 1));
        feed(h, "row r;task t 1 main{on 3{make r 2;}make r 0;}");
        h.module();
        h.begin();
        h.run(2);
        due(2, h.count(4));
        due(3, h.induced(1, 1));
        due(-1, h.item(0, NONE));
    }

    @Holds("Terms: 4 division by 0,")
    private static void signal4() {
        induces(4, "v=1/0;");
        induces(4, "v=1%0;");
        induces(4, "v=0/0;");
        induces(4, "v=0%0;");
        induces(4, "v=" + LEAST + "/(1-1);");
        induces(4, "v=v/(v-v);");
        inducesNothing("v=0/1;v=0%1;v=1/-1;");
    }

    @Holds("Terms: 5 a number out of its span,")
    private static void signal5() {
        induces(5, "v=" + MOST + "+1;");
        induces(5, "prior t 0;");
        induces(5, "prior t 10;");
        induces(5, "prior t -1;");
        induces(5, "prior t " + MOST + ";");
        induces(5, "induce 0;");
        induces(5, "induce 20;");
        inducesNothing("prior t 1;prior t 9;");
    }

    @Holds("Terms: 6 more than 8 procs under way in a task,")
    private static void signal6() {
        String proc = "var v;proc f(x){if x{do f(x-1);}v=v+1;}";
        House h = ran(proc + "task t 1 main{do f(7);}", 100);
        due(0, h.count(4));
        due(8, h.value(0));
        due(8, h.count(8));
        h = ran(proc + "task t 1 main{do f(8);}", 100);
        due(6, h.induced(0, 1));
        due(1, h.count(4));
        due(0, h.value(0));
        due(8, h.count(8));
        due(8, h.count(9));
        h = begun(proc + "task t 1 main{do f(7);}task u 1 main{do f(7);}", 2);
        h.run(15);
        due(8, h.task(0, 8));
        due(8, h.task(1, 8));
        h.run(100);
        due(0, h.count(4));
        h = ran(proc + "task t 1 main{do f(7);do f(7);do f(7);}", 200);
        due(0, h.count(4));
        due(24, h.value(0));
    }

    @Holds("Terms: 7 an act that a task's state bars, a schedule too many,")
    private static void signal7() {
        for (String s : new String[] {"go d;", "go t;", "go w;", "hold d;", "hold w;hold w;", "start d;hold d;hold d;", "end d;", "prior d 5;", "start d;hold d;go d;go d;"}) {
            induces(7, s);
        }
        inducesNothing("start d;hold d;end d;hold w;go w;hold w;prior w 3;end w;prevent d;");
    }

    @Holds("Terms: 7 an act that a task's state bars, a schedule too many,")
    private static void aScheduleTooMany() {
        House h = begun(twelveSchedules("at 90 start g;"));
        h.run(12);
        due(12, h.count(6));
        due(0, h.count(4));
        h.run(1);
        due(12, h.count(6));
        due(7, h.induced(0, 1));
        for (String s : new String[] {"after 9 go g;", "all 9 start g;", "when i start g;", "all 9 until 99 go h;"}) {
            h = ran(twelveSchedules(s), 13);
            due("signal of " + s, 7, h.induced(0, 1));
        }
    }

    private static String twelveSchedules(String thirteenth) {
        StringBuilder text = new StringBuilder("irpt i;row r;task a 1 main{on any{log 7;log 8;}");
        for (char t = 'a'; t <= 'f'; t++) {
            text.append("after 50 start ").append(t).append(";when i go ").append(t).append(";");
        }
        text.append(thirteenth).append('}');
        for (char t = 'b'; t <= 'h'; t++) {
            text.append("task ").append(t).append(" 1{log 1;}");
        }
        return text.toString();
    }

    @Holds("Terms: 8 a gate misused,")
    private static void signal8() {
        induces(8, "free b;");
        induces(8, "leave b;");
        induces(8, "reserve b;leave b;");
        induces(8, "enter b;free b;");
        induces(8, "give s;");
        induces(8, "v=0;while v<40{put o v;v=v+1;}put o v;");
        inducesNothing("reserve b;free b;enter b;leave b;ask s;give s;put o 1;");
    }

    @Holds("Terms: 9 a span or time that can't be;")
    private static void signal9() {
        for (String s : new String[] {"at -1 start d;", "at 0 start d;", "after 0 start d;", "after -1 go d;", "all 0 start d;", "all -1 go d;", "all 5 until 4 start d;", "at 1000*1000*1000+1 go d;",
            "after 1000*1000*1000 start d;", "all 1000*1000*1000 start d;"}) {
            induces(9, s);
        }
        inducesNothing("at time start d;after 1 go d;all 1 until time+1 start d;prevent d;");
    }

    @Holds("Terms: 10 .. 19 by induce (which can all of 1 .. 19; else 5).")
    private static void inducedSignals() {
        for (int signal = 1; signal <= 19; signal++) {
            induces(signal, "induce " + signal + ";");
        }
        for (String e : new String[] {"0", "20", "-1", "-19", MOST, LEAST}) {
            induces(5, "induce " + e + ";");
        }
    }

    @Holds("Terms: All E of an S are worked first, from the left (of NAME \"[\" E \"]\" the E, then 1, 2; of an item that is set both E);")
    private static void expressionsAreWorkedFirst() {
        induces(4, "v=r[1/0];");
        induces(1, "v=r[7];");
        induces(4, "make r 1;v=r[7/0];");
        induces(4, "r[0]=1/0;");
        induces(4, "make r 1;r[7]=1/0;");
        induces(4, "r[1/0]=q[0];");
        induces(1, "r[q[0]]=1/0;");
        induces(1, "make r 1;r[9]=q[0];");
        induces(4, "do p(1/0);");
        induces(4, "make r 21/0;");
        induces(4, "prior d 1/0;");
        induces(4, "induce 20/0;");
        induces(4, "at 1/0 start d;");
        induces(4, "all 0 until 1/0 start d;");
        induces(4, "all 1/0 until r[0] start d;");
        induces(1, "all r[0] until 1/0 start d;");
        induces(1, "if r[0]{v=1;}");
        induces(4, "while 1/0{v=1;}");
        induces(4, "v=0;while v<40{put o v;v=v+1;}put o 1/0;");
        House h = ran("row r;proc p(x,y,z){}task t 1 main{do p(1/0,r[0],1);}task u 1 main{do p(1,r[0],1/0);}task w 1 main{do p(1,2,1/0);}", 3);
        due(4, h.induced(0, 1));
        due(1, h.induced(1, 1));
        due(4, h.induced(2, 1));
        h = ran("proc f(x){if x{do f(x-1);}do f(1/x);}task t 1 main{do f(7);}", 40);
        due(4, h.induced(0, 1));
        due(8, h.count(8));
    }

    @Holds("Terms: then prior has 5 ahead of 7, a schedule 9 ahead of 7.")
    private static void fiveAndNineGoAheadOfSeven() {
        induces(5, "prior d 0;");
        induces(5, "prior d 10;");
        induces(7, "prior d 1;");
        for (String s : new String[] {"at 0 start g;", "after 0 go g;", "all 0 start h;", "all 5 until 1 go h;", "after 1000*1000*1000 start g;"}) {
            due("signal of " + s, 9, ran(twelveSchedules(s), 13).induced(0, 1));
        }
        due(1, ran(twelveSchedules("after r[0] start g;"), 13).induced(0, 1));
    }

    @Holds("Terms: An S that induces one changes nothing else.")
    private static void changesNothingElse() {
        House h = ran("var v=4;row r;sema s 9;sema u 0;task t 1 main{make r 3;r[1]=8;if 1{on any{}make r 21;}if 1{on any{}r[3]=5;}if 1{on any{}v=1/0;}if 1{on any{}give u,s;}if 1{on any{}r[1]=1/0;}}", 20);
        due(5, h.count(4));
        due(4, h.value(0));
        due(3, h.item(0, NONE));
        due(8, h.item(0, 1));
        due(9, h.sema(0));
        due(0, h.sema(1));
        h = ran("bolt b;out o;task t 1 main{at 50 start d;if 1{on any{}at 0 start d;}if 1{on any{}all 5 until 1 start d;}if 1{on any{}prior t 10;}if 1{on any{}put o 1/0;}if 1{on any{}free b;}"
            + "if 1{on any{}leave b;}hold t;log 1;}task d 1{log 1;}", 14);
        due(6, h.count(4));
        due(50, h.schedule(1, 0, 0));
        due(0, h.schedule(1, 0, 1));
        due(1, h.task(0, 1));
        due(0, h.sent(0, NONE));
        due(NONE, h.bolt(0, 0));
        due(0, h.bolt(0, 1));
        due(0, h.bolt(0, 2));
        h = ran("var v=3;proc p(x){return x;}task t 1 main{on any{hold t;log 1;}v=do p(1/0);}", 2);
        due(3, h.value(0));
        due(0, h.count(8));
        due(0, h.task(0, 8));
    }

    @Holds("Terms: It goes to the inmost BLOCK under way in the task that has an on for it, or for any (of one BLOCK that for it):")
    private static void theInmostBlock() {
        String[] texts = {
            "on 11{log 1;}if 1{on any{log 2;}induce 11;}",
            "on any{log 1;}if 1{on 11{log 2;}induce 11;}",
            "on 11{log 2;}if 1{on 12{log 1;}induce 11;}",
            "on any{log 1;}on 11{log 2;}induce 11;",
            "on 11{log 2;}on any{log 1;}induce 11;",
            "on 10{log 1;}on 12{log 1;}on any{log 2;}induce 11;",
            "on 11{log 2;}while 1{if 1{on 12{log 1;}induce 11;}}",
            "on 4{log 2;}while 1/0{on 4{log 1;}}",
            "on 4{log 2;}if 1/0{on 4{log 1;}}else{on any{log 3;}}",
            "on 4{log 2;}do p(1/0);",
            "on 11{log 2;}if 1{on 11{log 1;}}induce 11;",
            "on 4{log 2;}do q();",
            "on 4{log 1;}do r();",
            "on 19{log 2;}on 1{log 1;}induce 19;",
            "on 1{log 2;}on 19{log 1;}induce 1;"};
        for (String text : texts) {
            House h = ran("proc p(x){on 4{log 1;}log x;}proc q(){on 5{log 1;}log 1/0;}proc r(){on 4{log 2;}if 1{on 5{log 1;}do q();}}task t 1 main{" + text + "}task u 2 main{on any{log 9;}hold u;end;}", 30);
            logs(text, h, 2);
            due(1, h.count(5));
            due(1, h.count(4));
        }
    }

    @Holds("Terms: that BLOCK is over but for the on's BLOCK, which is done in its place (what it induces goes further out).")
    private static void inItsPlace() {
        logs("of an if: then behind it", ran("task t 1 main{if 1{on 11{log 1;log 2;}induce 11;log 3;}log 4;}", 20), 1, 2, 4);
        logs("of an else: then behind it", ran("task t 1 main{if 0{}else{on 11{log 1;}induce 11;log 3;}log 4;}", 20), 1, 4);
        logs("of a while: the while again", ran("var a;task t 1 main{while a<3{on any{log 10;}a=a+1;if a=2{induce 12;}log a;}log 9;}", 40), 1, 10, 3, 9);
        logs("of a proc: its end, 0", ran("var a=7;proc p(){on 13{log 2;}induce 13;return 5;}task t 1 main{a=do p();log a;}", 40), 2, 0);
        logs("of a proc: return", ran("var a=7;proc p(x){on 13{return x+5;}induce 13;}task t 1 main{a=do p(1);log a;}", 40), 6);
        logs("of a proc further out", ran("var a=7;proc p(){on 13{log 2;}a=do q();log 3;}proc q(){if 1{induce 13;}}task t 1 main{do p();log a;}", 40), 2, 7);
        House h = ran("task t 1 main{on 13{log 2;}if 1{induce 13;log 3;}log 4;}", 40);
        logs("of a task: then it ENDS", h, 2);
        due(0, h.task(0, 0));
        due(1, h.task(0, 6));
        due(3, h.count(2));
    }

    @Holds("Terms: that BLOCK is over but for the on's BLOCK, which is done in its place (what it induces goes further out).")
    private static void whatItInducesGoesFurtherOut() {
        House h = ran("task t 1 main{on any{log 1;}if 1{on 11{log 5;induce 11;log 2;}on 12{log 3;}on any{log 4;}induce 11;}}", 20);
        logs("the same signal", h, 5, 1);
        due(2, h.count(5));
        h = ran("task t 1 main{on any{log 1;}if 1{on 11{log 5;induce 12;log 2;}on 12{log 3;}on any{log 4;}induce 11;}}", 20);
        logs("another one", h, 5, 1);
        h = ran("task t 1 main{on 11{on 12{log 1;}log 5;if 1{induce 12;}log 2;}on 12{log 3;}induce 11;}", 20);
        logs("an on of the on's own BLOCK", h, 5, 1);
        h = ran("task t 1 main{on 11{on 12{log 6;induce 12;}log 5;induce 12;}on 12{log 3;}induce 11;}", 20);
        logs("out of an on in an on the task ENDS", h, 5, 6);
        due(3, h.count(4));
        due(2, h.count(5));
        due(1, h.task(0, 6));
        h = ran("proc p(){on 11{induce 11;log 9;}induce 11;}task t 1 main{on 11{log 4;}do p();}", 20);
        logs("out of a proc's on", h, 4);
        due(1, h.count(9));
        h = ran("task t 1 main{on 12{log 1;}if 1" + times(10, "{on 11") + "{log 5;induce 12;}" + times(10, "induce 11;}") + "log 2;}", 30);
        logs("out of ten ons within one another", h, 5, 1);
        due(11, h.count(5));
    }

    @Holds("Terms: Without one the task ENDS.")
    private static void withoutAReactionTheTaskEnds() {
        House h = ran("proc p(){if 1{on 12{log 1;}induce 11;}}task t 1 main{if 1{on 5{log 1;}do p();}log 2;}task u 2 main{on any{log 1;}hold u;log 1;}", 30);
        due(0, h.task(0, 0));
        due(1, h.task(0, 6));
        due(0, h.task(0, 8));
        due(1, h.count(8));
        due(1, h.count(9));
        due(0, h.count(5));
        due(0, h.count(3));
        due(2, h.task(1, 0));
        h = ran("proc p(x){" + times(10, "if 1{") + "if x{do p(x-1);}induce 11;" + times(11, "}") + "task t 1 main{" + times(11, "if 1{") + "do p(7);" + times(12, "}"), 200);
        due(11, h.induced(0, 1));
        due(1, h.count(4));
        due(8, h.count(9));
        due(0, h.task(0, 0));
        h = ran("task t 1 main{start t;induce 11;}", 2);
        due(1, h.task(0, 0));
        due(2, h.task(0, 5));
        due(0, h.task(0, 2));
    }

    @Holds("Terms: INDUCED are told, the first 100: task, SIGNAL, S.")
    private static void theFirst100AreTold() {
        House h = begun("var a;task s 9{}task t 1 main{log 5;while a<120{on any{a=a+1;}induce 10+a/100;}}");
        h.run(299);
        due(99, h.count(4));
        due(NONE, h.induced(99, 0));
        h.run(500);
        due(120, h.count(4));
        for (int i = 0; i < 100; i++) {
            due(1, h.induced(i, 0));
            due(10, h.induced(i, 1));
            due(3, h.induced(i, 2));
        }
        due(NONE, h.induced(100, 0));
        due(NONE, h.induced(100, 1));
        due(NONE, h.induced(119, 2));
        due(11, h.task(1, 7));
    }
}
