// Promises 1 to 25 and the refusals: the edges that each call has. Each test says the sentence that it holds.
public final class PromisesTest extends Check {
    private static final int LEAST = -2147483648, MOST = 2147483647, BY_IRPT = -2000000000;
    private static final String BLANKS = "        ";

    public static void main(String[] args) throws IllegalAccessException {
        all(PromisesTest.class);
    }

    /** A run with something of everything: a waits for a sema, b for the bolt, c is held, d is DORMANT, e waits for the in. */
    private static final String HOUSE = "var v=7;row r;row q;sema s 1;bolt k;irpt i;in n;out o;proc p(x){ask s;}"
        + "task a 1 main{make r 2;r[1]=5;reserve k;put o 8;log 9;after 500 start d;when i go c;if 1{on 11{}induce 11;}disable i;ask s;do p(1);}task b 2 main{enter k;}"
        + "task c 3 main{hold c;log 1;}task d 4{log 2;}task e 5 main{take n v;}";

    private static House fullHouse() {
        House h = begun(HOUSE);
        h.run(16);
        return h;
    }

    /** What an object with a run of the full house answers to all calls that change nothing. */
    private static String told(House h) {
        StringBuilder all = new StringBuilder();
        for (int t = 0; t < 5; t++) {
            for (int what = 0; what <= 8; what++) {
                add(all, h.task(t, what));
            }
            add(all, h.schedule(t, 0, 0), h.schedule(t, 1, 0), h.logged(t), h.ring(t), h.bolt(0, t + 2));
        }
        for (int what = 0; what <= 9; what++) {
            add(all, h.count(what), h.declared(what));
        }
        add(all, h.value(0), h.item(0, NONE), h.item(0, 0), h.item(0, 1), h.item(1, NONE), h.one(0, 1), h.sema(0), h.bolt(0, 0), h.bolt(0, 1), h.sent(0, NONE), h.sent(0, 0));
        add(all, h.irpt(0, 0), h.irpt(0, 1), h.irpt(0, 2), h.waits(2, 0, 0), h.waits(3, 0, 0), h.waits(5, 0, 0), h.induced(0, 0), h.induced(0, 1), h.induced(0, 2), h.place());
        return all.toString();
    }

    private static void add(StringBuilder all, int... answers) {
        for (int answer : answers) {
            all.append(' ').append(answer);
        }
    }

    @Holds("The public face: public static final int NONE = -1, BAD = -2, STATE = -3, FULL = -4;")
    private static void constants() {
        due("NONE", -1, PearlHouse.NONE);
        due("BAD", -2, PearlHouse.BAD);
        due("STATE", -3, PearlHouse.STATE);
        due("FULL", -4, PearlHouse.FULL);
    }

    @Holds("Terms: Refusals are answers below 0: NONE no such thing, BAD a number not as told, STATE not now, FULL:")
    private static void callsAheadOfARun() {
        for (House h : new House[] {new House(), read("var v;row r;sema s 1;bolt b;irpt i;in n;out o;task t 1 main{log 1;}")}) {
            due(STATE, h.run(1));
            due(STATE, h.trigger(0));
            due(STATE, h.send(0, 1));
            due(STATE, h.task(0, 0));
            due(0, h.value(0));
            due(0, h.item(0, 0));
            due(0, h.item(0, NONE));
            due(STATE, h.one(0, 0));
            due(STATE, h.sema(0));
            due(STATE, h.bolt(0, 0));
            due(STATE, h.irpt(0, 0));
            due(0, h.sent(0, 0));
            due(0, h.sent(0, NONE));
            due(STATE, h.waits(2, 0, 0));
            due(STATE, h.schedule(0, 0, 0));
            due(STATE, h.ring(0));
            due(0, h.logged(0));
            due(NONE, h.induced(0, 0));
            due(STATE, h.count(0));
        }
    }

    @Holds("Terms: the first that is so, in the order in which a call names them;")
    private static void refusalsHaveAnOrder() {
        House h = new House();
        due(BAD, h.run(0));
        due(BAD, h.run(501));
        due(STATE, h.trigger(-1));
        due(STATE, h.send(-1, 1));
        due(STATE, h.task(-1, -1));
        due(STATE, h.one(-1, -1));
        due(STATE, h.sema(-1));
        due(STATE, h.bolt(-1, -1));
        due(STATE, h.irpt(-1, -1));
        due(STATE, h.waits(-1, -1, -1));
        due(STATE, h.schedule(-1, -1, -1));
        due(STATE, h.ring(-1));
        due(STATE, h.count(-1));
        h = begun("");
        due(NONE, h.task(0, -1));
        due(NONE, h.task(0, 9));
        due(NONE, h.bolt(0, -1));
        due(NONE, h.irpt(0, 3));
        due(NONE, h.schedule(0, 2, 4));
        due(NONE, h.send(0, 1));
        due(BAD, h.waits(4, 0, 0));
    }

    @Holds("Terms: then nothing changes.")
    private static void aRefusedCallChangesNothing() {
        House h = fullHouse();
        String before = told(h);
        int[] refused = {h.feed(7, 9), h.feed(7, -1), h.processors(0), h.processors(4), h.run(0), h.run(501), h.run(-1), h.trigger(-1), h.trigger(1), h.send(-1, 1), h.send(1, 1), h.task(5, 0),
            h.task(0, 9), h.one(0, 2), h.one(-1, 0), h.sema(1), h.bolt(1, 0), h.bolt(0, 7), h.bolt(0, -1), h.irpt(1, 0), h.irpt(0, 3), h.waits(4, 0, 0), h.waits(2, 1, 0), h.schedule(5, 0, 0),
            h.schedule(0, 2, 0), h.schedule(0, 0, 4), h.ring(0), h.count(10), h.count(-1), h.declared(11), h.declared(-1), h.find(9, 'v'), h.induced(1, 0)};
        for (int i = 0; i < refused.length; i++) {
            due("refusal " + i + " is below 0", 1, refused[i] < 0 ? 1 : 0);
        }
        dueText("all that is told", before, told(h));
        due(1, h.feed('a', 1));
        due(1, h.processors(1));
        h = fullHouse();
        h.send(0, 6);
        for (int i = 1; i <= 20; i++) {
            due(i, h.send(0, i));
        }
        before = told(h);
        due(FULL, h.send(0, 99));
        dueText("all that is told behind FULL", before, told(h));
    }

    @Holds("Promise 1: An empty tape, no module; one PROCESSOR.")
    private static void aNewObject() {
        House h = new House();
        due(STATE, h.begin());
        due(NONE, h.place());
        for (int sort = 0; sort <= 10; sort++) {
            due(0, h.declared(sort));
        }
        due(NONE, h.find(0, 'a'));
        due(NONE, h.find(8, 0));
        due(3, h.feed(name("row"), 3));
        due(1, new House().processors(3));
        due(0, new House().module());
        due(1, new House().feed(0, 1));
        h = ran("task a 1 main{log 1;}task b 1 main{log 2;}", 1);
        logs("one PROCESSOR", h, 1);
    }

    @Holds("Promise 2: The n lowest bytes of w, the highest first, come behind THE TAPE: how many it has;")
    private static void feedTakesTheLowestBytes() {
        for (int n = 1; n <= 8; n++) {
            House h = new House();
            due(4, h.feed(name("####row "), 4));
            String name = "abcdefgh".substring(0, n);
            due(4 + n, h.feed(name("#".repeat(8 - n) + name), n));
            due(5 + n, h.feed(';', 1));
            due(0, h.module());
            due(0, h.find(1, name(name)));
        }
        House h = new House();
        due(8, h.feed(-1L, 8));
        due(-11, h.module());
        due(8, h.feed(name("row zzz;"), 8));
        due(16, h.feed(name("row yyy;"), 8));
        due(0, h.module());
        due(0, h.find(1, name("zzz")));
        due(1, h.find(1, name("yyy")));
    }

    @Holds("Promise 2: n = 0: it is empty: 0.")
    private static void feedOfNothingEmptiesTheTape() {
        House h = new House();
        due(0, h.feed(0, 0));
        due(3, h.feed(name("&&&"), 3));
        due(0, h.feed(name("row a;"), 0));
        due(6, h.feed(name("row b;"), 6));
        due(0, h.module());
        due(0, h.find(1, 'b'));
        due(NONE, h.find(1, 'a'));
        for (int i = 1; i <= 500; i++) {
            due(8L * i, h.feed(-1L, 8));
        }
        due(0, h.feed(-1L, 0));
        due(1, h.feed(' ', 1));
    }

    @Holds("Promise 2: BAD: n is not 0 .. 8; FULL.")
    private static void feedRefuses() {
        House h = new House();
        for (int n : new int[] {-1, 9, 10, 64, LEAST, MOST}) {
            due(BAD, h.feed(name("row a;"), n));
        }
        for (int i = 1; i <= 499; i++) {
            h.feed(name(BLANKS), 8);
        }
        due(3993, h.feed(' ', 1));
        due(FULL, h.feed(name("########"), 8));
        due(BAD, h.feed(' ', 9));
        due(4000, h.feed(name(" row a;"), 7));
        due(FULL, h.feed(' ', 1));
        due(0, h.module());
    }

    @Holds("Promise 2: BAD: n is not 0 .. 8; FULL.")
    private static void feedOfAFullTapeChangesNothing() {
        House h = new House();
        for (int i = 1; i <= 499; i++) {
            h.feed(name(BLANKS), 8);
        }
        due(4000, h.feed(name("row abc;"), 8));
        for (int n = 1; n <= 8; n++) {
            due(FULL, h.feed(-1L, n));
        }
        due(0, h.module());
        due(0, h.find(1, name("abc")));
        due(NONE, h.place());
    }

    @Holds("Promise 3: THE TAPE, which is empty then, is the module, and no run is there: how many tasks;")
    private static void moduleIsReadOfTheTape() {
        for (int tasks = 0; tasks <= 8; tasks++) {
            StringBuilder text = new StringBuilder("var a;");
            for (int t = 0; t < tasks; t++) {
                text.append("task t").append(t).append(" 1{}");
            }
            House h = new House();
            feed(h, text.toString());
            due(tasks, h.module());
        }
        House h = ran("var a=1;row q;out o;task t 1 main{a=2;log 3;make q 1;q[0]=5;put o 6;induce 12;}", 6);
        due(3, h.logged(0));
        due(12, h.induced(0, 1));
        feed(h, "var b=4;row r;out p;");
        due(0, h.module());
        due(STATE, h.run(1));
        due(STATE, h.count(0));
        due(STATE, h.task(0, 0));
        due(0, h.value(0));
        due(0, h.logged(0));
        due(NONE, h.induced(0, 1));
        due(0, h.item(0, 0));
        due(0, h.item(0, NONE));
        due(0, h.sent(0, 0));
        due(0, h.sent(0, NONE));
        due(0, h.declared(8));
        due(1, h.declared(1));
        due(1, h.feed(' ', 1));
        due(0, h.begin());
        due(4, h.value(0));
        due(0, h.module());
        due(0, h.declared(0));
        due(STATE, h.run(1));
    }

    @Holds("Promise 3: -10 less the FAULT: what was there stays.")
    private static void aFaultLeavesWhatWasThere() {
        String[] faults = {"&", "row", "task t 1{" + times(201, "end;"), "row z;row z;", "sema z 10;", "var v;task t 1{log z;}", "proc z(){}task t 1{do z(1);}"};
        for (int i = 0; i < faults.length; i++) {
            House h = fullHouse();
            String before = told(h).replaceAll(" -1$", "");
            feed(h, faults[i]);
            due(-11 - i, h.module());
            dueText("all that is told behind fault " + (i + 1), before, told(h).replaceAll(" \\d+$", ""));
            due(0, h.find(0, 'v'));
            due(NONE, h.find(1, 'z'));
            due(1, h.run(1));
        }
        House h = new House();
        for (String fault : faults) {
            feed(h, fault);
            h.module();
            due(STATE, h.begin());
            due(0, h.declared(0));
            due(1, h.feed('&', 1));
            due(0, h.feed(0, 0));
        }
    }

    @Holds("Promise 3: -10 less the FAULT: what was there stays.")
    private static void aTextBehindOthersIsReadAsByANewObject() {
        String[] others = {"sema a 1;sema b", "sema a 9;sema b 9;sema c 9;sema d 9;&", "proc p(x){&", "task t 1" + times(11, "{if 1") + "{&", "proc p(){}task t 1{do p(1);}",
            "var a=5;var b=6;task t 3 main{log 1+2+3;a=4;}", "proc p(x,y){return x;}task t 1 main{do p(1,2);}", "task t 1 main{on 5{log 1;}if 1{on any{}log 1/0;}}", "row a;row r[", "irpt i;in n;out o;bolt b;",
            "task t 1{" + times(150, "if 1{}else{}") + "}", "task t 1{" + times(100, "log 1+1;") + "log 1" + times(49, "+1") + ";}"};
        String text = "sema a 1;var v;proc p(){on 4{log 4;}log 1/0;}row r;task t 1 main{ask a;ask a;v=v+5;log v;do p();}task u 2{log 9;}task w 2 main{give a;}";
        for (String other : others) {
            House h = new House();
            moduleOf(h, other);
            h.begin();
            h.run(3);
            moduleOf(h, other);
            due("module() behind " + other, 3, moduleOf(h, text));
            due(2, h.begin());
            due(1, h.sema(0));
            due(NONE, h.sema(1));
            due(2, h.run(50));
            logs("behind " + other, h, 5, 4);
            due(0, h.task(1, 5));
            due(8, h.count(2));
            due(9, h.declared(9));
            due(9, h.declared(10));
            due(0, h.declared(3));
        }
    }

    @Holds("Promise 4: The place of the FAULT of the latest module(); NONE without one, and before.")
    private static void placeOfTheLatestFault() {
        House h = new House();
        due(NONE, h.place());
        feed(h, "row ;");
        due(NONE, h.place());
        due(-12, h.module());
        due(4, h.place());
        due(0, h.feed(0, 0));
        due(4, h.place());
        feed(h, "  &");
        due(4, h.place());
        due(STATE, h.begin());
        due(-11, h.module());
        due(2, h.place());
        due(2, h.place());
        due(0, h.module());
        due(NONE, h.place());
        feed(h, "task t 1{log x;}");
        due(-16, h.module());
        due(13, h.place());
        due(0, h.begin());
        due(13, h.place());
        feed(h, "row r;");
        due(0, h.module());
        due(NONE, h.place());
        due(-11, moduleOf(h, "&"));
        due(0, h.place());
    }

    private static int moduleOf(House h, String text) {
        feed(h, text);
        return h.module();
    }

    @Holds("Promise 5: How many there are of a SORT 0 .. 8; 9 S, 10 NODES. BAD.")
    private static void declaredOfEachSort() {
        House h = read("var a;var b;row c;sema d 0;sema e 0;sema f 0;bolt g;irpt h;irpt i;in j;out k;out l;out m;proc n(){}proc o(x,y){log x;}task p 1{}task q 2{on 1{log 1;}if a{log 2;}else{b=-a;}}");
        int[] due = {2, 1, 3, 1, 2, 1, 3, 2, 2, 5, 6};
        for (int sort = 0; sort <= 10; sort++) {
            due(due[sort], h.declared(sort));
        }
        for (int sort : new int[] {-1, 11, LEAST, MOST}) {
            due(BAD, h.declared(sort));
        }
        h.begin();
        due(5, h.declared(9));
        due(-11, moduleOf(h, "&"));
        due(6, h.declared(10));
        h.module();
        for (int sort = 0; sort <= 10; sort++) {
            due(0, h.declared(sort));
        }
    }

    @Holds("Promise 6: The number of a NAME (its bytes, the first one highest) of a SORT 0 .. 8; NONE.")
    private static void findANumber() {
        House h = read("var a;var ab;var abcdefgh;row ba;proc p(x){}task t 1{}var bbcdefgh;var abcdefg1;row bcdefgh;");
        due(3, h.find(0, name("bbcdefgh")));
        due(4, h.find(0, name("abcdefg1")));
        due(1, h.find(1, name("bcdefgh")));
        due(NONE, h.find(1, name("abcdefgh")));
        due(0, h.find(0, 'a'));
        due(1, h.find(0, ('a' << 8) + 'b'));
        due(0, h.find(1, ('b' << 8) + 'a'));
        due(2, h.find(0, name("abcdefgh")));
        due(NONE, h.find(0, ('b' << 8) + 'a'));
        due(NONE, h.find(1, 'a'));
        due(NONE, h.find(0, name("abcdefg")));
        due(NONE, h.find(0, name("bcdefgh")));
        due(NONE, h.find(0, 0));
        due(NONE, h.find(0, -1));
        due(NONE, h.find(0, (long) 'a' << 8));
        due(NONE, h.find(0, (long) 'a' << 56));
        due(NONE, h.find(7, 'x'));
        due(NONE, h.find(0, 'x'));
        due(NONE, h.find(0, name("var")));
        for (int sort : new int[] {-1, 9, 10, LEAST, MOST}) {
            due(NONE, h.find(sort, 'a'));
            due(NONE, h.find(sort, 'x'));
        }
        due(0, h.find(8, 't'));
        due(0, moduleOf(h, "row a;"));
        due(NONE, h.find(0, 'a'));
        due(NONE, h.find(0, name("ab")));
        due(0, h.find(1, 'a'));
    }

    @Holds("Promise 7: PROCESSORS (1 .. 3) of runs that begin: how many it was. BAD.")
    private static void processorsOfRunsThatBegin() {
        House h = read("task a 1 main{while 1{}}task b 1 main{while 1{}}task c 1 main{while 1{}}task d 1 main{while 1{}}");
        for (int n : new int[] {0, 4, -1, LEAST, MOST}) {
            due(BAD, h.processors(n));
        }
        due(1, h.processors(1));
        due(1, h.processors(2));
        h.begin();
        due(2, h.processors(3));
        h.run(1);
        due(2, h.count(2));
        due(BAD, h.processors(4));
        h.begin();
        h.run(1);
        due(3, h.count(2));
        due(3, h.processors(1));
        h.run(1);
        due(6, h.count(2));
        due(0, moduleOf(h, ""));
        due(1, h.processors(2));
        due(1, moduleOf(h, "task a 1 main{}"));
        due(2, h.processors(2));
    }

    @Holds("Promise 8: A run begins: how many tasks are READY. STATE: there is no module.")
    private static void beginARun() {
        due(STATE, new House().begin());
        House h = new House();
        feed(h, "task a 1 main{log 1;}");
        due(STATE, h.begin());
        due(1, h.module());
        due(1, h.begin());
        h.run(1);
        due(1, h.begin());
        due(1, h.task(0, 0));
        due(0, begun("").begin());
        due(0, begun("task a 1{log 1;}task b 1 main{}").begin());
        due(8, begun("task a 1 main{end;}task b 1 main{end;}task c 1 main{end;}task d 1 main{end;}task e 1 main{end;}task f 1 main{end;}task g 1 main{end;}task h 1 main{end;}").begin());
        h = read("task a 1 main{log 1;}");
        due(-11, moduleOf(h, "&"));
        due(1, h.begin());
        House none = new House();
        due(-11, moduleOf(none, "&"));
        due(STATE, none.begin());
    }

    @Holds("Promise 9: n GRAINS at most (1 .. 500): 0 it is STILL, 1 n were done, 2 it has ENDED.")
    private static void runAnswers() {
        House h = begun("task a 1 main{log 1;log 2;log 3;}");
        due(1, h.run(1));
        due(1, h.count(1));
        due(1, h.run(2));
        due(3, h.count(1));
        due(0, h.task(0, 0));
        due(2, h.run(1));
        due(2, h.run(500));
        due(3, h.count(1));
        h = begun("task a 1 main{log 1;log 2;log 3;}");
        due(2, h.run(4));
        due(3, h.count(1));
        h = begun("task a 1 main{log 1;hold a;log 3;}");
        due(1, h.run(2));
        due(0, h.run(1));
        due(2, h.count(1));
        h = begun("task a 1 main{while 1{}}");
        due(1, h.run(500));
        due(500, h.count(1));
        due(1, h.run(499));
        due(999, h.count(1));
    }

    @Holds("Promise 9: BAD; STATE: no run; FULL (ahead of each GRAIN; what was done stays): 4000 SIGNALS were induced ever.")
    private static void runRefuses() {
        House h = new House();
        due(STATE, h.run(1));
        due(STATE, h.run(500));
        for (int n : new int[] {0, 501, -1, LEAST, MOST}) {
            due(BAD, h.run(n));
        }
        h = begun("task a 1 main{log 1;}");
        for (int n : new int[] {0, 501, -1, LEAST, MOST}) {
            due(BAD, h.run(n));
        }
        due(0, h.count(1));
        due(1, h.run(1));
    }

    @Holds("Promise 9: BAD; STATE: no run; FULL (ahead of each GRAIN; what was done stays): 4000 SIGNALS were induced ever.")
    private static void fourThousandSignalsEver() {
        House h = begun("task t 1 main{while 1{on any{}induce 11;}}");
        for (int i = 0; i < 15; i++) {
            due(1, h.run(500));
        }
        due(1, h.run(499));
        due(3999, h.count(4));
        due(FULL, h.run(2));
        due(4000, h.count(4));
        due(8000, h.count(1));
        due(8000, h.count(0));
        due(FULL, h.run(1));
        due(8000, h.count(1));
        due(BAD, h.run(0));
        due(1, h.begin());
        due(FULL, h.run(1));
        due(0, h.count(1));
        due(1, moduleOf(h, "task t 1 main{log 1;}"));
        due(STATE, h.run(1));
        h.begin();
        due(FULL, h.run(1));
        h = begun("task t 1 main{while 1{on any{}induce 11;}}");
        for (int i = 0; i < 8; i++) {
            h.run(500);
        }
        h.begin();
        for (int i = 0; i < 8; i++) {
            due(1, h.run(500));
        }
        due(2000, h.count(4));
        due(FULL, h.run(1));
    }

    @Holds("Promise 10: An irpt comes, from outside: 1, 0: it is KEPT. STATE; NONE.")
    private static void triggerAnIrpt() {
        House h = read("irpt i;irpt j;task a 1 main{disable j;when i start b;when j start c;log 1;enable j;}task b 2{log 2;}task c 2{log 3;}");
        due(STATE, h.trigger(0));
        due(STATE, h.trigger(9));
        h.begin();
        for (int i : new int[] {-1, 2, LEAST, MOST}) {
            due(NONE, h.trigger(i));
        }
        due(1, h.trigger(0));
        due(1, h.irpt(0, 2));
        h.run(3);
        due(0, h.trigger(1));
        due(0, h.trigger(1));
        due(0, h.irpt(1, 2));
        due(1, h.irpt(1, 1));
        due(0, h.task(2, 0));
        due(1, h.trigger(0));
        due(1, h.task(1, 0));
        due(3, h.count(0));
        due(3, h.count(1));
        due(3, h.count(2));
        h.run(2);
        due(1, h.irpt(1, 2));
        due(1, h.task(2, 5));
        due(0, h.task(2, 3));
        due(1, h.trigger(1));
        due(1, h.task(2, 3));
        due(2, h.run(20));
        due(0, h.task(2, 0));
        due(1, h.trigger(1));
        due(1, h.task(2, 0));
        due(1, h.run(1));
        due(2, h.run(1));
    }

    @Holds("Promise 11: A number comes to an in (20 wait there at most): how many wait. STATE; NONE; FULL.")
    private static void sendANumber() {
        House h = read("var v;in m;in n;task a 1 main{take m v;log v;}");
        due(STATE, h.send(0, 1));
        due(STATE, h.send(9, 1));
        h.begin();
        for (int in : new int[] {-1, 2, LEAST, MOST}) {
            due(NONE, h.send(in, 1));
        }
        for (int i = 1; i <= 20; i++) {
            due(i, h.send(1, i));
        }
        due(FULL, h.send(1, 21));
        due(NONE, h.send(2, 21));
        due(1, h.send(0, MOST));
        h.run(2);
        logs("the eldest", h, MOST);
        due(1, h.send(0, 5));
        h = begun("var v;in m;task a 1 main{take m v;log v;}task b 1 main{take m v;log v;}");
        h.run(2);
        due(0, h.send(0, LEAST));
        due(LEAST, h.value(0));
        due(0, h.send(0, 6));
        due(1, h.send(0, 7));
        h.begin();
        for (int i = 1; i <= 20; i++) {
            due(i, h.send(0, i));
        }
        h.run(1);
        due(20, h.send(0, 21));
        due(FULL, h.send(0, 22));
    }

    @Holds("Promise 12: Of a task: 0 its state, 1 PRIORITY (0: DORMANT), 2 the S that it does next, by the text (WAITING: the one in which it waits; NONE), 3 STARTS KEPT, 4 LOST, 5 how often it began, 6 how often it ENDED, 7 the latest SIGNAL it induced (0), 8 procs under way.")
    private static void taskTells() {
        House h = begun("sema s 0;proc p(){log 1;ask s;}task a 4 main{if 1{on any{}induce 12;}start b;start b;start b;start b;start b;prior a 7;if 1{on any{}induce 19;}do p();log 3;}task b 9{log 2;}");
        h.run(11);
        int[][] due = {{1, 7, 0, 0, 0, 1, 0, 19, 1}, {1, 9, 14, 3, 1, 1, 0, 0, 0}};
        tells(h, due);
        h.run(3);
        due = new int[][] {{3, 7, 1, 0, 0, 1, 0, 19, 1}, {1, 9, 14, 2, 1, 2, 1, 0, 0}};
        tells(h, due);
        h.run(20);
        due = new int[][] {{3, 7, 1, 0, 0, 1, 0, 19, 1}, {0, 0, NONE, 0, 1, 4, 4, 0, 0}};
        tells(h, due);
        h = ran("task a 1 main{if 1{on 11{hold a;log 1;}log 2;induce 11;}log 3;}", 4);
        due(2, h.task(0, 0));
        due(2, h.task(0, 2));
        h = ran("sema s 0;task a 5 main{hold b;log 1;}task b 1 main{ask s;log 2;}", 2);
        due(4, h.task(1, 0));
        due(2, h.task(1, 2));
    }

    private static void tells(House h, int[][] due) {
        for (int t = 0; t < due.length; t++) {
            for (int what = 0; what <= 8; what++) {
                due(due[t][what], h.task(t, what));
            }
        }
    }

    @Holds("Promise 12: 1 PRIORITY (0: DORMANT),")
    private static void priorityOfATask() {
        House h = begun("sema s 0;task a 4 main{prior a 3;hold b;hold c;end b;log 1;}task b 5 main{log 1;}task c 1 main{ask s;}task d 2{log 1;}");
        int[] due = {4, 5, 1, 0};
        for (int t = 0; t < 4; t++) {
            due(due[t], h.task(t, 1));
        }
        h.run(5);
        due(3, h.task(0, 1));
        due(0, h.task(1, 1));
        h = ran("sema s 0;task a 4 main{hold b;hold c;log 1;}task b 5 main{log 1;}task c 1 main{ask s;}", 3);
        due(5, h.task(1, 1));
        due(1, h.task(2, 1));
    }

    @Holds("Promise 12: 2 the S that it does next, by the text (WAITING: the one in which it waits; NONE),")
    private static void theStatementThatATaskDoesNext() {
        House h = read("sema s 0;proc p(){log 0;}task a 1 main{on 1{log 1;}if 1{log 3;}else{log 4;}do p();ask s;log 7;}task b 2{log 8;}task c 3 main{give s;log 10;}");
        h.begin();
        int[] due = {2, 3, 5, 0, 6};
        for (int s : due) {
            due(s, h.task(0, 2));
            h.run(1);
        }
        due(3, h.task(0, 0));
        due(6, h.task(0, 2));
        due(NONE, h.task(1, 2));
        due(9, h.task(2, 2));
        h.run(1);
        due(7, h.task(0, 2));
        h.run(2);
        due(NONE, h.task(0, 2));
        due(NONE, h.task(2, 2));
    }

    @Holds("Promise 12: 3 STARTS KEPT, 4 LOST, 5 how often it began, 6 how often it ENDED,")
    private static void startsAndEndsOfATask() {
        House h = begun("task a 1 main{start b;start b;start b;start b;start b;start b;}task b 2{log 1;}");
        int[][] due = {{0, 0, 0, 0}, {0, 0, 1, 0}, {1, 0, 1, 0}, {2, 0, 1, 0}, {3, 0, 1, 0}, {3, 1, 1, 0}, {3, 2, 1, 0}, {2, 2, 2, 1}, {1, 2, 3, 2}, {0, 2, 4, 3}, {0, 2, 4, 4}};
        for (int[] one : due) {
            for (int what = 3; what <= 6; what++) {
                due(one[what - 3], h.task(1, what));
            }
            h.run(1);
        }
    }

    @Holds("Promise 12: 7 the latest SIGNAL it induced (0), 8 procs under way.")
    private static void latestSignalAndProcsOfATask() {
        House h = begun("proc p(){do q();}proc q(){on 12{log 1;log 2;}induce 12;}task a 1 main{if 1{on any{}induce 3;}do p();induce 19;}task b 2 main{log 3;}");
        int[][] due = {{0, 0}, {0, 0}, {3, 0}, {3, 1}, {3, 2}, {12, 2}, {12, 2}, {12, 0}, {19, 0}};
        for (int[] one : due) {
            due(one[0], h.task(0, 7));
            due(one[1], h.task(0, 8));
            due(0, h.task(1, 7));
            due(0, h.task(1, 8));
            h.run(1);
        }
    }

    @Holds("Promise 12: STATE; NONE; BAD.")
    private static void taskRefuses() {
        House h = read("task a 1 main{log 1;}task b 1{log 1;}");
        due(STATE, h.task(0, 0));
        due(STATE, h.task(9, 9));
        h.begin();
        for (int t : new int[] {-1, 2, 8, LEAST, MOST}) {
            due(NONE, h.task(t, 0));
            due(NONE, h.task(t, 9));
        }
        for (int what : new int[] {-1, 9, LEAST, MOST}) {
            due(BAD, h.task(0, what));
            due(BAD, h.task(1, what));
        }
    }

    @Holds("Promise 13: A var's number; 0: no such one, no run.")
    private static void valueOfAVar() {
        House h = read("var a=-999999999;var b=6;var c;task t 1 main{c=b;b=-1;}");
        due(0, h.value(0));
        due(0, h.value(1));
        h.begin();
        due(-999999999, h.value(0));
        due(6, h.value(1));
        due(0, h.value(2));
        for (int v : new int[] {-1, 3, 8, LEAST, MOST}) {
            due(0, h.value(v));
        }
        h.run(2);
        due(-1, h.value(1));
        due(6, h.value(2));
        due(0, moduleOf(h, "var a=5;"));
        due(0, h.value(0));
    }

    @Holds("Promise 14: Item i of a row; i = NONE: how many (-1: NONE). 0: there is none such.")
    private static void itemOfARow() {
        House h = read("row a;row b;row c;task t 1 main{make a 20;a[0]=3;a[19]=-4;a[2]=6;make b 0;make a 2;a[1]=9;lose a;}");
        due(0, h.item(0, NONE));
        due(0, h.item(0, 0));
        h.begin();
        due(-1, h.item(0, NONE));
        due(0, h.item(0, 0));
        h.run(5);
        due(20, h.item(0, NONE));
        due(3, h.item(0, 0));
        due(-4, h.item(0, 19));
        due(0, h.item(1, NONE));
        due(0, h.item(1, 0));
        due(-1, h.item(2, NONE));
        for (int i : new int[] {-2, 20, 21, LEAST, MOST}) {
            due(0, h.item(0, i));
        }
        for (int row : new int[] {-1, 3, 4, LEAST, MOST}) {
            due(0, h.item(row, 0));
            due(0, h.item(row, NONE));
        }
        h.run(2);
        due(2, h.item(0, NONE));
        due(9, h.item(0, 1));
        due(0, h.item(0, 2));
        due(0, h.item(0, 19));
        h.run(1);
        due(-1, h.item(0, NONE));
        due(0, h.item(0, 1));
    }

    @Holds("Promise 15: Whether two rows have one array: 1, 0 (NONE is like NONE). STATE; NONE.")
    private static void oneArray() {
        House h = read("row a;row b;row c;task t 1 main{make a 2;make b 2;same c a;lose a;lose c;}");
        due(STATE, h.one(0, 1));
        due(STATE, h.one(9, 9));
        h.begin();
        due(1, h.one(0, 1));
        due(1, h.one(2, 2));
        h.run(1);
        due(0, h.one(0, 1));
        due(0, h.one(1, 0));
        due(1, h.one(0, 0));
        h.run(2);
        due(0, h.one(0, 1));
        due(1, h.one(0, 2));
        due(1, h.one(2, 0));
        for (int row : new int[] {-1, 3, LEAST, MOST}) {
            due(NONE, h.one(row, 0));
            due(NONE, h.one(0, row));
            due(NONE, h.one(row, row));
        }
        h.run(2);
        due(1, h.one(0, 2));
        due(0, h.one(0, 1));
    }

    @Holds("Promise 16: A sema's count. STATE; NONE.")
    private static void countOfASema() {
        House h = read("sema s 0;sema u 9;task t 1 main{give s;ask u,u;}");
        due(STATE, h.sema(0));
        due(STATE, h.sema(9));
        h.begin();
        due(0, h.sema(0));
        due(9, h.sema(1));
        h.run(2);
        due(1, h.sema(0));
        due(7, h.sema(1));
        for (int s : new int[] {-1, 2, 4, LEAST, MOST}) {
            due(NONE, h.sema(s));
        }
    }

    @Holds("Promise 17: Of a bolt: 0 who reserved it (NONE), 1 how often it is entered, 2 + t how often by task t. STATE; NONE; BAD.")
    private static void boltTells() {
        House h = read("bolt b;bolt c;task z 9{}task a 1 main{enter b;enter b;reserve c;hold a;log 1;}task d 2 main{enter b;hold d;log 1;}");
        due(STATE, h.bolt(0, 0));
        due(STATE, h.bolt(9, 9));
        h.begin();
        due(NONE, h.bolt(0, 0));
        due(0, h.bolt(0, 1));
        h.run(9);
        int[][] due = {{NONE, 3, 0, 2, 1}, {1, 0, 0, 0, 0}};
        for (int b = 0; b < 2; b++) {
            for (int what = 0; what < 5; what++) {
                due(due[b][what], h.bolt(b, what));
            }
        }
        for (int b : new int[] {-1, 2, 4, LEAST, MOST}) {
            due(NONE, h.bolt(b, 0));
            due(NONE, h.bolt(b, -1));
        }
        for (int what : new int[] {-1, 10, LEAST, MOST}) {
            due(BAD, h.bolt(0, what));
        }
    }

    @Holds("Promise 18: Of an irpt: 0 whether it is enabled, 1 KEPT, 2 how often it came. STATE; NONE; BAD.")
    private static void irptTells() {
        House h = read("irpt i;irpt j;task a 1 main{disable i;pull j;pull j;pull i;pull i;enable i;pull i;}");
        due(STATE, h.irpt(0, 0));
        due(STATE, h.irpt(9, 9));
        h.begin();
        int[][] due = {{1, 0, 0, 1, 0, 0}, {0, 0, 0, 1, 0, 0}, {0, 0, 0, 1, 0, 1}, {0, 0, 0, 1, 0, 2}, {0, 1, 0, 1, 0, 2}, {0, 1, 0, 1, 0, 2}, {1, 0, 1, 1, 0, 2}, {1, 0, 2, 1, 0, 2}};
        for (int[] one : due) {
            for (int what = 0; what < 6; what++) {
                due(one[what], h.irpt(what / 3, what % 3));
            }
            h.run(1);
        }
        for (int i : new int[] {-1, 2, 4, LEAST, MOST}) {
            due(NONE, h.irpt(i, 0));
            due(NONE, h.irpt(i, -1));
        }
        for (int what : new int[] {-1, 3, LEAST, MOST}) {
            due(BAD, h.irpt(0, what));
        }
    }

    @Holds("Promise 19: Number i of an out; i = NONE: how many. 0: there is none such.")
    private static void numberOfAnOut() {
        House h = read("out o;out p;task a 1 main{put o 5;put p 6;put o -7;}");
        due(0, h.sent(0, NONE));
        due(0, h.sent(0, 0));
        h.begin();
        due(0, h.sent(0, NONE));
        due(0, h.sent(0, 0));
        h.run(3);
        due(2, h.sent(0, NONE));
        due(5, h.sent(0, 0));
        due(-7, h.sent(0, 1));
        due(1, h.sent(1, NONE));
        due(6, h.sent(1, 0));
        for (int i : new int[] {-2, 2, 40, LEAST, MOST}) {
            due(0, h.sent(0, i));
        }
        due(0, h.sent(1, 1));
        for (int out : new int[] {-1, 2, 4, LEAST, MOST}) {
            due(0, h.sent(out, 0));
            due(0, h.sent(out, NONE));
        }
    }

    @Holds("Promise 20: The k-th that WAITS (from 0) of those for a sema (sort 2), bolt (3), in (5), as they would be SERVED. NONE: none such. STATE; BAD: another sort.")
    private static void whoWaits() {
        House h = read("var v;sema s 0;sema u 0;bolt k;in n;task a 5 main{ask s,u,s;}task b 3 main{ask u;}task c 5 main{hold c;ask s;}task d 5 main{ask s;}task e 6 main{take n v;}task f 6 main{take n v;}"
            + "task g 7 main{reserve k;go c;enter k;}task x 8 main{reserve k;}");
        due(STATE, h.waits(2, 0, 0));
        due(STATE, h.waits(9, 9, 9));
        h.begin();
        due(NONE, h.waits(2, 0, 0));
        h.run(30);
        int[][] due = {{2, 0, 0, 3, 2, NONE}, {2, 1, 1, 0, NONE, NONE}, {3, 0, 6, 7, NONE, NONE}, {5, 0, 4, 5, NONE, NONE}};
        for (int[] one : due) {
            for (int k = 0; k < 4; k++) {
                due(one[k + 2], h.waits(one[0], one[1], k));
            }
            for (int k : new int[] {-1, 8, LEAST, MOST}) {
                due(NONE, h.waits(one[0], one[1], k));
            }
        }
        for (int number : new int[] {-1, 2, 4, LEAST, MOST}) {
            due(NONE, h.waits(2, number, 0));
            due(NONE, h.waits(3, number, 0));
            due(NONE, h.waits(5, number, 0));
        }
        h = ran("var v;sema s 0;bolt k;in n;task a 9 main{reserve k;prior d 1;hold b;hold c;hold d;log 1;}task b 1 main{ask s;}task c 1 main{take n v;}task d 9 main{reserve k;}", 8);
        for (int t = 1; t <= 3; t++) {
            due(4, h.task(t, 0));
        }
        due(1, h.waits(2, 0, 0));
        due(2, h.waits(5, 0, 0));
        due(3, h.waits(3, 0, 0));
        for (int sort : new int[] {-1, 0, 1, 4, 6, 7, 8, 9, LEAST, MOST}) {
            due(BAD, h.waits(sort, 0, 0));
            due(BAD, h.waits(sort, -1, -1));
        }
    }

    @Holds("Promise 21: The schedule of a task, to start (0) or go (1): what = 0 its time (NONE: it has none; -2000000000: by an irpt), 1 its span (0), 2 until (2147483647), 3 the irpt (NONE).")
    private static void scheduleTells() {
        House h = ran("irpt i;irpt j;task a 1 main{at 90 start b;after 80 go b;all 70 start c;all 60 until 999 go c;when j start d;when i go d;log 1;}task b 1{log 1;}task c 1{log 1;}task d 1{log 1;}", 6);
        int[][] due = {{NONE, 0, MOST, NONE}, {NONE, 0, MOST, NONE}, {90, 0, MOST, NONE}, {81, 0, MOST, NONE}, {72, 70, MOST, NONE}, {63, 60, 999, NONE}, {BY_IRPT, 0, MOST, 1}, {BY_IRPT, 0, MOST, 0}};
        for (int k = 0; k < due.length; k++) {
            for (int what = 0; what < 4; what++) {
                due(due[k][what], h.schedule(k / 2, k % 2, what));
            }
        }
        h.run(2);
        due(63, h.count(0));
        h.run(1);
        due(123, h.schedule(2, 1, 0));
        due(60, h.schedule(2, 1, 1));
        due(999, h.schedule(2, 1, 2));
        h = ran("irpt i;task a 1 main{all 5 until 7 start b;when i go b;log 1;prevent b;log 2;}task b 9{log 1;}", 4);
        for (int goes = 0; goes <= 1; goes++) {
            due(NONE, h.schedule(1, goes, 0));
            due(0, h.schedule(1, goes, 1));
            due(MOST, h.schedule(1, goes, 2));
            due(NONE, h.schedule(1, goes, 3));
        }
    }

    @Holds("Promise 21: STATE; NONE: no such task; BAD.")
    private static void scheduleRefuses() {
        House h = read("task a 1 main{log 1;}task b 1{}");
        due(STATE, h.schedule(0, 0, 0));
        due(STATE, h.schedule(9, 9, 9));
        h.begin();
        for (int t : new int[] {-1, 2, 8, LEAST, MOST}) {
            due(NONE, h.schedule(t, 0, 0));
            due(NONE, h.schedule(t, -1, 9));
        }
        for (int wrong : new int[] {-1, 4, LEAST, MOST}) {
            due(BAD, h.schedule(0, 0, wrong));
            due(BAD, h.schedule(1, 1, wrong));
            due(BAD, h.schedule(0, wrong, 0));
        }
        due(BAD, h.schedule(0, 2, 0));
    }

    @Holds("Promise 22: The k-th task, by numbers, that is in a RING; NONE. STATE.")
    private static void whoIsInARing() {
        House h = read("bolt b;bolt c;task z 9 main{reserve b;}task a 2 main{reserve b;hold a;reserve c;}task y 9 main{log 1;}task d 1 main{hold d;reserve c;reserve b;}task m 5 main{go d;go a;}");
        due(STATE, h.ring(0));
        due(STATE, h.ring(-1));
        h.begin();
        due(NONE, h.ring(0));
        h.run(30);
        due(1, h.ring(0));
        due(3, h.ring(1));
        for (int k : new int[] {2, 3, 8, -1, LEAST, MOST}) {
            due(NONE, h.ring(k));
        }
    }

    @Holds("Promise 23: Number i of the LOG; 0: there is none such.")
    private static void numberOfTheLog() {
        House h = read("task a 1 main{log 4;log -5;}");
        due(0, h.logged(0));
        h.begin();
        due(0, h.logged(0));
        h.run(1);
        due(4, h.logged(0));
        due(0, h.logged(1));
        h.run(1);
        due(-5, h.logged(1));
        for (int i : new int[] {2, 199, 200, -1, LEAST, MOST}) {
            due(0, h.logged(i));
        }
        h.begin();
        due(0, h.logged(0));
    }

    @Holds("Promise 24: Of INDUCED i: 0 the task, 1 the SIGNAL, 2 the S. NONE.")
    private static void inducedTells() {
        House h = read("task z 1{}task a 1 main{log 1;if 1{on any{}induce 15;}log 1/0;}task b 2 main{log 1;end z;}");
        due(NONE, h.induced(0, 0));
        h.begin();
        due(NONE, h.induced(0, 0));
        h.run(9);
        int[][] due = {{1, 15, 2}, {1, 4, 3}, {2, 7, 5}, {NONE, NONE, NONE}};
        for (int i = 0; i < due.length; i++) {
            for (int what = 0; what <= 2; what++) {
                due(due[i][what], h.induced(i, what));
            }
        }
        for (int wrong : new int[] {-1, 3, LEAST, MOST}) {
            due(NONE, h.induced(0, wrong));
            due(NONE, h.induced(wrong, 0));
        }
        h.begin();
        due(NONE, h.induced(0, 1));
    }

    @Holds("Promise 25: Of the run: 0 TIME, 1 GRAINS, 2 S done (also those that induced, and began to wait), 3 numbers LOGGED (all), 4 SIGNALS induced (all), 5 SIGNALS that met a reaction, 6 schedules, 7 READY tasks, 8 how often a procs' BLOCK began, 9 how often one was over, in whatever way (its task ENDED, too).")
    private static void countsOfTheRun() {
        House h = begun("sema s 0;irpt i;proc p(){on 4{log 2;}log 1/0;}proc e(){}proc q(){do r();}proc r(){ask s;}task t 1 main{do p();do e();log 7;all 500 start u;when i go u;start v;do q();}"
            + "task u 2{log 1;}task v 3{hold v;log 2;}task w 4 main{log 1;end t;log 1;log 1/0;}");
        h.run(11);
        counts(h, 11, 11, 11, 2, 1, 1, 2, 2, 4, 2);
        h.run(4);
        counts(h, 15, 15, 15, 4, 1, 1, 2, 1, 4, 4);
        h.run(1);
        counts(h, 16, 16, 16, 4, 2, 1, 2, 0, 4, 4);
        h.run(1);
        counts(h, 505, 17, 16, 4, 2, 1, 2, 0, 4, 4);
    }

    private static void counts(House h, int... due) {
        for (int what = 0; what <= 9; what++) {
            due(due[what], h.count(what));
        }
    }

    @Holds("Promise 25: 0 TIME, 1 GRAINS,")
    private static void timeAndGrains() {
        House h = begun("task a 1 main{log 1;after 50 start b;}task b 1{log 1;}");
        int[] time = {0, 1, 2, 51, 52, 52};
        int[] grains = {0, 1, 2, 3, 4, 4};
        for (int i = 0; i < time.length; i++) {
            due(time[i], h.count(0));
            due(grains[i], h.count(1));
            h.run(1);
        }
    }

    @Holds("Promise 25: 2 S done (also those that induced, and began to wait),")
    private static void statementsDone() {
        House h = begun("sema s 0;task a 1 main{if 1{on any{}induce 11;}ask s;log 1;}task b 2 main{hold b;give s;}task c 3 main{after 9 go b;}");
        int[] due = {0, 1, 2, 3, 4, 5, 5, 6, 7, 7};
        for (int i = 0; i < due.length; i++) {
            due(due[i], h.count(2));
            h.run(1);
        }
        h = begun("task a 1 main{end b;log 1;}task b 2 main{log 2;}", 2);
        h.run(1);
        due(1, h.count(2));
    }

    @Holds("Promise 25: 3 numbers LOGGED (all), 4 SIGNALS induced (all), 5 SIGNALS that met a reaction,")
    private static void loggedAndInduced() {
        House h = begun("var v;task a 1 main{while v<210{on 11{}log v;v=v+1;induce 11;}}task b 2 main{log 1/0;}task c 3 main{start c;induce 12;}");
        h.run(400);
        due(100, h.count(3));
        due(100, h.count(4));
        due(100, h.count(5));
        h.run(441);
        due(210, h.count(3));
        due(210, h.count(4));
        due(210, h.count(5));
        h.run(5);
        due(210, h.count(3));
        due(213, h.count(4));
        due(210, h.count(5));
    }

    @Holds("Promise 25: 6 schedules, 7 READY tasks,")
    private static void schedulesAndReadyTasks() {
        House h = begun("sema s 0;irpt i;task a 2 main{at 50 start b;when i go b;at 60 start b;all 70 until 80 go a;start b;hold b;prevent b;end b;log 1;}task b 5{log 1;}task c 1 main{ask s;}task d 9 main{log 1;}");
        int[] schedules = {0, 0, 1, 2, 2, 3, 3, 3, 1, 1, 0};
        int[] ready = {3, 2, 2, 2, 2, 2, 3, 2, 2, 2, 1};
        for (int i = 0; i < schedules.length; i++) {
            due(schedules[i], h.count(6));
            due(ready[i], h.count(7));
            h.run(1);
        }
    }

    @Holds("Promise 25: 8 how often a procs' BLOCK began, 9 how often one was over, in whatever way (its task ENDED, too).")
    private static void procsBegunAndOver() {
        String head = "sema s 0;proc e(){}proc r(){return 1;}proc o(){on 11{log 1;}induce 11;}proc x(){induce 12;}proc y(){do x();}proc w(){ask s;}";
        String[] acts = {"do e();", "do r();", "do o();", "if 1{on any{}do x();}", "if 1{on any{}do y();}", "do x();", "do y();", "do w();"};
        int[] begun = {1, 1, 1, 1, 2, 1, 2, 1};
        for (int i = 0; i < acts.length; i++) {
            House h = ran(head + "task t 1 main{" + acts[i] + "}task m 2 main{hold m;hold m;log 1;}", 9);
            due("count(8) of " + acts[i], begun[i], h.count(8));
            due("count(9) of " + acts[i], acts[i].equals("do w();") ? 0 : begun[i], h.count(9));
        }
        House h = ran(head + "task t 1 main{do w();}task m 2 main{end t;}", 9);
        due(1, h.count(9));
        h = ran(head + "task t 1 main{start t;do w();}task m 2 main{end t;}", 9);
        due(2, h.count(8));
        due(1, h.count(9));
    }

    @Holds("Promise 25: STATE; BAD.")
    private static void countRefuses() {
        House h = read("task t 1 main{log 1;}");
        due(STATE, h.count(0));
        due(STATE, h.count(-1));
        h.begin();
        for (int what : new int[] {-1, 10, LEAST, MOST}) {
            due(BAD, h.count(what));
        }
        due(0, h.count(9));
    }
}
