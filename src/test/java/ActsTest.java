// Terms, 3 TASKS: what is done to tasks, schedules and irpts. Each test says the sentence of the document that it holds.
public final class ActsTest extends Check {
    private static final int FOREVER = 2147483647, BY_IRPT = -2000000000;

    public static void main(String[] args) throws IllegalAccessException {
        all(ActsTest.class);
    }

    @Holds("Terms: 3 TASKS. start: a DORMANT one begins (READY); another one has one START KEPT (3 at most), else it is LOST.")
    private static void startOfADormantOne() {
        House h = begun("task a 5 main{start b;log 1;}task b 7{log 2;}");
        h.run(1);
        due(1, h.task(1, 0));
        due(7, h.task(1, 1));
        due(2, h.task(1, 2));
        due(0, h.task(1, 3));
        due(0, h.task(1, 4));
        due(1, h.task(1, 5));
    }

    @Holds("Terms: 3 TASKS. start: a DORMANT one begins (READY); another one has one START KEPT (3 at most), else it is LOST.")
    private static void startOfAnotherOne() {
        String[] acts = {"", "hold b;", "", "hold b;"};
        String[] others = {"task b 9 main{log 2;}", "task b 9 main{log 2;}", "task b 1 main{ask s;}", "task b 1 main{ask s;}"};
        int[] grains = {0, 1, 1, 2};
        for (int state = 1; state <= 4; state++) {
            House h = begun("sema s 0;task a 5 main{" + acts[state - 1] + times(7, "start b;") + "}" + others[state - 1]);
            for (int i = 0; i < grains[state - 1]; i++) {
                h.run(1);
            }
            for (int n = 1; n <= 6; n++) {
                due(state, h.task(1, 0));
                h.run(1);
                due("STARTS KEPT in state " + state, Math.min(n, 3), h.task(1, 3));
                due("LOST in state " + state, Math.max(n - 3, 0), h.task(1, 4));
            }
            due(state, h.task(1, 0));
            due(1, h.task(1, 5));
        }
        House h = ran("task a 1 main{start a;start a;start a;start a;log 1;}", 4);
        due(3, h.task(0, 3));
        due(1, h.task(0, 4));
    }

    @Holds("Terms: end: a task that is not DORMANT ENDS (itself without a NAME; else 7):")
    private static void ends() {
        House h = ran("sema s 0;task a 5 main{end b;end c;end d;end e;log 1;end;log 2;}task b 6 main{log 3;}task c 1 main{ask s;}task d 1 main{hold d;log 4;}task e 1 main{after 9 go a;ask s;}", 10);
        for (int t = 1; t <= 4; t++) {
            due(0, h.task(t, 0));
            due(1, h.task(t, 6));
            due(NONE, h.task(t, 2));
        }
        due(2, h.run(20));
        logs("itself", h, 1);
        h = ran("sema s 0;task a 5 main{hold c;end c;end a;log 2;}task c 1 main{ask s;}", 20);
        due(0, h.task(0, 0));
        due(0, h.task(1, 0));
        due(0, h.count(3));
        h = ran("task a 5 main{hold a;log 1;}task b 6 main{end;log 2;}task c 7 main{log 3;end;}", 20);
        due(2, h.task(0, 0));
        due(1, h.task(1, 6));
        due(1, h.task(2, 6));
        logs("itself without a NAME", h, 3);
        h = ran("task a 5 main{on 7{log 7;}end b;log 1;}task b 5{log 2;}", 20);
        logs("a DORMANT one", h, 7);
        due(0, h.task(1, 6));
        h = ran("proc p(){end;}task a 5 main{do p();log 1;}", 20);
        due(1, h.task(0, 6));
        due(1, h.count(9));
        due(0, h.count(3));
    }

    @Holds("Terms: what it waits for, its schedules to go are gone,")
    private static void whatItWaitsForIsGone() {
        House h = ran("sema s 0;irpt i;task a 5 main{when i go b;after 60 start b;end b;give s;log 1;hold a;log 1;}task b 1 main{ask s;log 2;}", 7);
        due(1, h.sema(0));
        due(NONE, h.waits(2, 0, 0));
        due(NONE, h.schedule(1, 1, 0));
        due(62, h.schedule(1, 0, 0));
        due(1, h.count(6));
        String[] ways = {"end;", "log 1;", "induce 11;", "end a;"};
        for (String way : ways) {
            h = ran("task a 1 main{after 50 go a;after 60 start a;" + way + "}", 3);
            due("to go, " + way, NONE, h.schedule(0, 1, 0));
            due("to start, " + way, 61, h.schedule(0, 0, 0));
            h = ran("task a 1 main{start a;after 50 go a;after 60 start a;" + way + "}", 4);
            due("begun anew, " + way, 2, h.task(0, 5));
            due("to go, begun anew, " + way, NONE, h.schedule(0, 1, 0));
            due("to start, begun anew, " + way, 62, h.schedule(0, 0, 0));
        }
        h = ran("task a 5 main{after 50 go e;after 50 start e;start e;log 1;}task e 1{}", 3);
        due(NONE, h.schedule(1, 1, 0));
        due(51, h.schedule(1, 0, 0));
        h = ran("var v;in n;task a 5 main{end b;log 1;}task b 1 main{take n v;log 2;}", 2);
        due(0, h.task(1, 0));
        due(NONE, h.waits(5, 0, 0));
        due(1, h.send(0, 5));
        due(0, h.value(0));
    }

    @Holds("Terms: what it has of gates stays (to be given back as it begins anew, too);")
    private static void whatItHasOfGatesStays() {
        House h = ran("bolt b;bolt c;sema s 1;var v;task a 1 main{if v{free b;leave c;give s;log 7;end;}v=1;reserve b;enter c;ask s;start a;end;}", 7);
        due(1, h.task(0, 6));
        due(0, h.bolt(0, 0));
        due(1, h.bolt(1, 2));
        due(0, h.sema(0));
        h.run(5);
        due(0, h.count(4));
        due(NONE, h.bolt(0, 0));
        due(0, h.bolt(1, 1));
        due(1, h.sema(0));
        logs("given back as it begins anew", h, 7);
        h = ran("bolt b;task a 1 main{reserve b;induce 11;}task c 2 main{reserve b;}", 9);
        due(0, h.bolt(0, 0));
        due(3, h.task(1, 0));
    }

    @Holds("Terms: with a START KEPT it begins anew at once, else it is DORMANT.")
    private static void withAStartKeptItBeginsAnew() {
        House h = begun("proc p(){start a;prior a 9;end;}task a 5 main{do p();log 1;}task b 5 main{log 2;}");
        h.run(3);
        due(1, h.task(0, 8));
        h.run(1);
        due(1, h.count(3));
        h.run(1);
        due(1, h.task(0, 0));
        due(5, h.task(0, 1));
        due(3, h.task(0, 2));
        due(0, h.task(0, 3));
        due(2, h.task(0, 5));
        due(1, h.task(0, 6));
        due(0, h.task(0, 8));
        h = ran("task a 5 main{start a;log 1;}task b 5 main{log 2;}", 5);
        logs("it becomes READY behind the others", h, 1, 2, 1);
        h = ran("sema s 0;task a 5 main{start b;start b;end b;log 1;}task b 1 main{ask s;log 9;}", 5);
        due(3, h.task(1, 0));
        due(1, h.task(1, 3));
        due(2, h.task(1, 5));
        h = ran("task a 5 main{hold b;start b;end b;}task b 9 main{log 9;}", 3);
        due(1, h.task(1, 0));
        h = ran("task a 5 main{log 1;}", 1);
        due(0, h.task(0, 0));
        due(0, h.task(0, 1));
    }

    @Holds("Terms: hold: READY becomes HELD, WAITING 4 (else 7).")
    private static void holds() {
        House h = ran("sema s 0;task a 5 main{hold b;hold c;hold a;log 1;}task b 9 main{log 2;}task c 1 main{ask s;}", 4);
        due(2, h.task(0, 0));
        due(2, h.task(1, 0));
        due(4, h.task(2, 0));
        due(3, h.task(0, 2));
        String[] barred = {"hold b;hold b;", "hold c;hold c;", "hold d;"};
        for (String s : barred) {
            h = ran("sema s 0;task a 5 main{on 7{log 7;}" + s + "}task b 9 main{prior b 9;}task c 1 main{ask s;}task d 1{log 1;}", 9);
            logs(s, h, 7);
        }
    }

    @Holds("Terms: go: HELD becomes READY, 4 WAITING (else 7).")
    private static void goes() {
        House h = ran("sema s 0;task a 5 main{hold b;hold c;go b;go c;log 1;}task b 9 main{log 2;}task c 1 main{ask s;}", 5);
        due(1, h.task(1, 0));
        due(3, h.task(2, 0));
        due(2, h.waits(2, 0, 0));
        String[] barred = {"go a;", "go b;", "go c;", "go d;"};
        for (String s : barred) {
            h = ran("sema s 0;task a 5 main{on 7{log 7;}" + s + "}task b 9 main{prior b 9;}task c 1 main{ask s;}task d 1{log 1;}", 9);
            logs(s, h, 7);
        }
        h = ran("sema s 0;task m 5 main{hold a;go a;hold b;go b;hold a;go a;log 1;}task a 1 main{ask s;}task b 1 main{ask s;}", 8);
        due(1, h.waits(2, 0, 0));
        due(2, h.waits(2, 0, 1));
        h = ran("sema s 0;task a 5 main{hold c;give s;log state c;go c;log state c;}task c 1 main{ask s;log 3;}", 9);
        logs("served while it is held", h, 2, 3, 0);
    }

    @Holds("Terms: prior: 1 .. 9, else 5; of DORMANT 7")
    private static void priors() {
        for (int p = -1; p <= 11; p++) {
            House h = ran("task a 5 main{on 5{hold a;log 5;}prior a " + p + ";log 1;}", 1);
            boolean fit = p >= 1 && p <= 9;
            due("PRIORITY by prior a " + p, fit ? p : 5, h.task(0, 1));
            due("SIGNALS by prior a " + p, fit ? 0 : 1, h.count(4));
        }
        House h = ran("sema s 0;task a 5 main{on 7{log 7;log 8;}prior b 8;hold b;prior b 4;prior c 9;hold c;prior c 2;prior d 1;}task b 9 main{log 2;}task c 1 main{ask s;}task d 1{log 1;}", 9);
        due(4, h.task(1, 1));
        due(2, h.task(2, 1));
        due(0, h.task(3, 1));
        due(7, h.induced(0, 1));
        due(7, h.logged(0));
    }

    @Holds("Terms: (its place by when it became READY, began to wait stays).")
    private static void placesStay() {
        House h = ran("task m 1 main{prior a 9;prior c 2;prior c 5;prior a 5;}task a 5 main{log 1;}task b 5 main{log 2;}task c 5 main{log 3;}", 9);
        logs("by when it became READY", h, 1, 2, 3);
        h = ran("task m 1 main{prior b 6;prior a 6;prior c 6;}task a 5 main{log 1;}task b 5 main{log 2;}task c 9 main{log 3;}", 9);
        logs("by when it became READY", h, 1, 2, 3);
        h = ran("sema s 0;task m 9 main{prior a 9;prior c 2;prior a 5;prior c 5;log 1;}task a 4 main{prior a 5;ask s;}task b 5 main{ask s;}task c 5 main{ask s;}", 8);
        for (int k = 0; k < 3; k++) {
            due(k + 1, h.waits(2, 0, k));
        }
    }

    @Holds("Terms: prevent: all schedules of the task are gone.")
    private static void prevents() {
        House h = ran("irpt i;task a 1 main{all 2 start b;when i go b;after 50 start c;after 60 go c;prevent b;log 1;prevent c;prevent c;}task b 1{log 5;}task c 1{log 6;}", 6);
        due(NONE, h.schedule(1, 0, 0));
        due(NONE, h.schedule(1, 1, 0));
        due(NONE, h.schedule(1, 1, 3));
        due(52, h.schedule(2, 0, 0));
        due(63, h.schedule(2, 1, 0));
        due(2, h.count(6));
        h.run(1);
        due(0, h.count(6));
        due(2, h.run(10));
        due(0, h.count(4));
    }

    @Holds("Terms: SCHEDULES, 12 at most (7), one for each task and for start, go each: a new one takes the place of the old one (also of 12):")
    private static void schedulesAre12AtMost() {
        StringBuilder text = new StringBuilder("irpt i;task a 1 main{on 7{log 7;log 8;}");
        for (char t = 'a'; t <= 'f'; t++) {
            text.append("after 50 start ").append(t).append(";when i go ").append(t).append(";");
        }
        text.append("all 9 start a;at 70 go f;when i start b;at 90 start g;}");
        for (char t = 'b'; t <= 'h'; t++) {
            text.append("task ").append(t).append(" 1{log 1;}");
        }
        House h = begun(text.toString());
        for (int n = 1; n <= 12; n++) {
            h.run(1);
            due(n, h.count(6));
        }
        h.run(3);
        due(12, h.count(6));
        due(0, h.count(4));
        due(9, h.schedule(0, 0, 1));
        due(70, h.schedule(5, 1, 0));
        due(NONE, h.schedule(5, 1, 3));
        due(BY_IRPT, h.schedule(1, 0, 0));
        h.run(1);
        due(7, h.induced(0, 1));
        due(12, h.count(6));
        due(NONE, h.schedule(6, 0, 0));
    }

    @Holds("Terms: SCHEDULES, 12 at most (7), one for each task and for start, go each: a new one takes the place of the old one (also of 12):")
    private static void aNewOneTakesThePlaceOfTheOldOne() {
        House h = begun("irpt i;task a 1 main{all 5 until 90 start b;when i start b;after 7 start b;after 8 go b;all 9 start b;log 1;}task b 1{log 2;}");
        int[][] due = {{5, 5, 90, NONE}, {BY_IRPT, 0, FOREVER, 0}, {9, 0, FOREVER, NONE}, {9, 0, FOREVER, NONE}, {13, 9, FOREVER, NONE}};
        for (int[] one : due) {
            h.run(1);
            for (int what = 0; what <= 3; what++) {
                due(one[what], h.schedule(1, 0, what));
            }
        }
        due(11, h.schedule(1, 1, 0));
        due(2, h.count(6));
    }

    @Holds("Terms: at E (9: below TIME): due then;")
    private static void atATime() {
        House h = begun("task a 1 main{at 0 start b;}task b 1{log time;}");
        h.run(1);
        due(0, h.schedule(1, 0, 0));
        due(2, h.run(9));
        logs("at TIME: in the next grain", h, 1);
        h = begun("task a 1 main{log 1;log 2;v=1;at 3 start b;}var v;task b 1{log time;}");
        due(2, h.run(9));
        logs("at TIME", h, 1, 2, 4);
        h = ran("task a 1 main{on 9{log 9;}log 1;log 2;at 1 start b;}task b 1{log time;}", 9);
        logs("one below TIME", h, 1, 2, 9);
        h = ran("task a 1 main{on 9{log 9;}at -1 start b;}task b 1{log time;}", 9);
        logs("below 0", h, 9);
        h = ran("task a 1 main{at 7 go a;hold a;log time;}", 9);
        logs("due then", h, 7);
        due(NONE, h.schedule(0, 1, 0));
    }

    @Holds("Terms: after E (9: below 1): TIME and E;")
    private static void afterASpan() {
        House h = begun("task a 1 main{log 1;after 1 start b;after 6 start c;log 2;}task b 1{log time;}task c 1{log time;}");
        h.run(2);
        due(2, h.schedule(1, 0, 0));
        h.run(1);
        due(8, h.schedule(2, 0, 0));
        due(2, h.run(20));
        logs("TIME and E", h, 1, 2, 4, 8);
        for (String s : new String[] {"after 0 start b;", "after -1 go b;", "after -2147483*1000 start b;"}) {
            logs(s, ran("task a 1 main{on 9{log 9;}" + s + "}task b 1{log 1;}", 9), 9);
        }
    }

    @Holds("Terms: all E: after E, then each E behind that (9: below 1; until is below the first), none behind until;")
    private static void allTheTime() {
        House h = begun("task a 1 main{log 1;all 4 until 13 start b;}task b 1{log time;}");
        due(2, h.run(50));
        logs("until itself", h, 1, 5, 9, 13);
        due(0, h.count(6));
        h = begun("task a 1 main{log 1;all 4 until 12 start b;}task b 1{log time;}");
        due(2, h.run(50));
        logs("none behind until", h, 1, 5, 9);
        h = begun("task a 1 main{log 1;all 4 until 5 start b;}task b 1{log time;}");
        due(2, h.run(50));
        logs("until is the first", h, 1, 5);
        h = ran("task a 1 main{all 1 start b;}task b 1{log time;}", 6);
        logs("each TIME", h, 1, 2, 3, 4, 5);
        due(6, h.schedule(1, 0, 0));
        for (String s : new String[] {"all 0 start b;", "all -1 start b;", "all 0 until 9 go b;", "log 1;all 4 until 4 start b;", "all 5 until -1 start b;"}) {
            h = ran("task a 1 main{on 9{log 9;}" + s + "}task b 1{log 1;}", 9);
            due("signal of " + s, 9, h.induced(0, 1));
            due("schedules of " + s, 0, h.count(6));
        }
    }

    @Holds("Terms: when: as often as the irpt comes.")
    private static void whenAnIrptComes() {
        House h = begun("irpt i;irpt j;task a 1 main{when i start b;when i go c;log 1;}task b 1{log 2;}task c 1 main{hold c;hold c;hold c;log 3;}");
        h.run(9);
        due(BY_IRPT, h.schedule(1, 0, 0));
        for (int n = 1; n <= 3; n++) {
            due(1, h.trigger(1));
            due(n - 1, h.task(1, 5));
            due(1, h.trigger(0));
            due(n, h.task(1, 5));
            h.run(9);
            due(BY_IRPT, h.schedule(1, 0, 0));
        }
        due(NONE, h.schedule(2, 1, 0));
        due(0, h.task(2, 0));
    }

    @Holds("Terms: Times above 1000000000: 9; an all goes none behind that.")
    private static void timesAbove1000000000() {
        String billion = "1000*1000*1000";
        for (String s : new String[] {"at # start b;", "after # start b;", "all # go b;", "all # until # go b;"}) {
            House h = ran("task a 1 main{" + s.replace("#", billion) + "log 1;}task b 1{log 1;}", 1);
            due("SIGNALS of " + s, 0, h.count(4));
            due("time of " + s, 1000000000, h.schedule(1, s.contains("go") ? 1 : 0, 0));
        }
        for (String s : new String[] {"at #+1 start b;", "after #+1 start b;", "all #+1 go b;", "after 2147483*1000 start b;", "at 2147483*1000 go b;"}) {
            House h = ran("task a 1 main{" + s.replace("#", billion) + "log 1;}task b 1{log 1;}", 1);
            due("SIGNAL of " + s, 9, h.induced(0, 1));
            due("schedules of " + s, 0, h.count(6));
        }
        House h = ran("task a 1 main{log 1;after " + billion + " start b;}task b 1{log 1;}", 2);
        due(9, h.induced(0, 1));
        h = ran("task a 1 main{log 1;after " + billion + "-1 start b;log 2;}task b 1{log 1;}", 2);
        due(1000000000, h.schedule(1, 0, 0));
        h = begun("task a 1 main{all 500*1000*1000 start b;}task b 1{log time;}");
        due(2, h.run(9));
        logs("1000000000 itself", h, 500000000, 1000000000);
        h = begun("task a 1 main{all 500*1000*1000+1 start b;}task b 1{log time;}");
        due(2, h.run(9));
        logs("none behind 1000000000", h, 500000001);
        due(0, h.count(6));
        h = begun("task a 1 main{all 999999999 start b;all 1000*1000*1000 go b;}task b 1{log time;}");
        due(2, h.run(9));
        due(9, h.induced(0, 1));
        logs("the next one would be behind 1000000000", h, 999999999);
    }

    @Holds("Terms: Those that are due act by times, of one time by tasks, start ahead of go; where a go is barred nothing comes of it.")
    private static void dueSchedulesActByTimesThenByTasks() {
        House h = ran("task a 1 main{after 2 start b;at 1 start c;log 9;}task b 5{log 1;}task c 5{log 2;}", 9);
        logs("by times", h, 9, 2, 1);
        h = ran("task m 1 main{at 9 start d;at 9 start b;at 9 start c;at 8 start e;}task b 5{log 1;}task c 5{log 2;}task d 5{log 3;}task e 6{log 4;}", 20);
        logs("of one time by tasks", h, 4, 1, 2, 3);
        h = ran("task a 5 main{at 9 go b;at 9 go c;at 9 start d;}task d 5{log 4;}task c 5 main{hold c;log 3;}task b 5 main{hold b;log 2;}", 20);
        logs("start and go of several tasks, by tasks", h, 4, 3, 2);
    }

    @Holds("Terms: Those that are due act by times, of one time by tasks, start ahead of go; where a go is barred nothing comes of it.")
    private static void whereAGoIsBarred() {
        House h = begun("sema s 0;task a 1 main{at 4 go a;at 4 go b;at 4 go c;log 1;log 2;log 3;}task b 2{log 5;}task c 3 main{ask s;}");
        h.run(30);
        due(0, h.count(4));
        due(0, h.count(6));
        due(0, h.task(1, 5));
        due(3, h.task(2, 0));
        due(3, h.count(3));
        h = begun("task a 1 main{at 3 go a;at 3 start a;hold a;log 1;}");
        h.run(4);
        due(2, h.task(0, 5));
        due(0, h.count(4));
    }

    @Holds("Terms: An irpt that comes (pull, or trigger()): enabled, all schedules for it act at once, by the task's PRIORITY (of DORMANT ones the told one), then by tasks, start ahead of go;")
    private static void anIrptThatComes() {
        House h = begun("irpt i;irpt j;task a 5 main{when i start b;when j start c;when i go d;when i start e;hold a;log 1;}task b 6{log 2;}task c 6{log 3;}task d 6 main{hold d;log 4;}task e 6{}");
        h.run(9);
        due(1, h.trigger(0));
        due(1, h.task(1, 0));
        due(0, h.task(2, 0));
        due(1, h.task(3, 0));
        due(1, h.task(4, 6));
        due(1, h.irpt(0, 2));
        due(0, h.irpt(1, 2));
        h = begun("irpt i;task a 5 main{when i start b;pull i;log state b;}task b 6{log 2;}");
        h.run(3);
        logs("at once", h, 1);
    }

    @Holds("Terms: An irpt that comes (pull, or trigger()): enabled, all schedules for it act at once, by the task's PRIORITY (of DORMANT ones the told one), then by tasks, start ahead of go;")
    private static void irptsActByPriorityThenByTasks() {
        House h = ran("irpt i;task a 5{log 1;}task b 3{log 2;}task m 1 main{when i start a;when i start b;pull i;prior b 5;}", 20);
        logs("by the told PRIORITY", h, 2, 1);
        h = ran("irpt i;task b 3 main{hold b;log 2;}task a 5 main{prior a 2;hold a;log 1;}task m 9 main{prior m 1;when i go b;when i go a;pull i;prior a 3;}", 30);
        logs("by its own PRIORITY", h, 1, 2);
        h = ran("irpt i;task x 5 main{prior x 1;if f{log 1;}f=1;}var f;task y 3{log 2;}task m 6 main{prior m 1;when i start x;when i start y;pull i;prior y 1;prior x 1;}", 30);
        logs("of DORMANT ones the told one, not the one of before", h, 2, 1);
        h = ran("irpt i;task a 5{log 1;}task b 5{log 2;}task c 5{log 3;}task m 1 main{when i start c;when i start a;when i start b;pull i;}", 20);
        logs("then by tasks", h, 1, 2, 3);
        h = ran("irpt i;task a 9{log 1;}task b 1{log 2;}task m 1 main{when i start a;when i start b;pull i;}", 20);
        logs("the first and the last PRIORITY", h, 2, 1);
        StringBuilder text = new StringBuilder("irpt i;task t7 1 main{");
        for (int t = 0; t < 7; t++) {
            text.append("when i start t").append(t).append(';');
        }
        text.append("pull i;}");
        for (int t = 6; t >= 0; t--) {
            text.append("task t").append(t).append(" 2{log ").append(t).append(";}");
        }
        h = ran(text.toString(), 20);
        logs("eight tasks", h, 6, 5, 4, 3, 2, 1, 0);
    }

    @Holds("Terms: disabled, it is KEPT (once), and comes when it is enabled.")
    private static void aDisabledIrptIsKept() {
        House h = begun("irpt i;irpt j;task a 1 main{when i start b;disable i;pull i;pull i;disable i;log state b;enable i;log state b;log 3;enable i;disable i;enable i;}task b 5{log 2;}");
        h.run(2);
        due(0, h.irpt(0, 0));
        due(0, h.irpt(0, 1));
        due(0, h.trigger(0));
        due(1, h.irpt(0, 1));
        h.run(3);
        due(1, h.irpt(0, 1));
        due(0, h.irpt(0, 2));
        due(1, h.trigger(1));
        h.run(2);
        due(1, h.irpt(0, 0));
        due(0, h.irpt(0, 1));
        due(1, h.irpt(0, 2));
        due(1, h.task(1, 5));
        due(0, h.task(1, 3));
        h.run(9);
        due(1, h.irpt(0, 2));
        logs("it comes once, when it is enabled", h, 0, 1, 3, 2);
    }
}
