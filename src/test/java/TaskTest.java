// Promises 10, 11 and 16 to 22: tasks, schedules, irpts, gates, waits and rings.
public final class TaskTest {
    private static final int FOREVER = 2147483647, BY_IRPT = -2000000000;

    public static void main(String[] args) {
        trigger();
        irptAnswers();
        irptOrder();
        send();
        starts();
        ends();
        holds();
        priors();
        schedules();
        scheduleSpans();
        scheduleOrder();
        schedulesTooMany();
        schedulesGone();
        semas();
        semaLists();
        semaServing();
        semasBehindFaults();
        bolts();
        boltEntering();
        boltServing();
        heldWaiters();
        takes();
        sent();
        waits();
        rings();
        Check.finish();
    }

    private static void trigger() {
        House h = Check.read("irpt i;irpt j;task a 1 main{when i start b;disable j;when j start b;}task b 2{log time;}");
        Check.due("trigger(0)", PearlHouse.STATE, h.trigger(0));
        Check.due("trigger(9), STATE goes first", PearlHouse.STATE, h.trigger(9));
        h.begin();
        Check.due("trigger(-1)", PearlHouse.NONE, h.trigger(-1));
        Check.due("trigger(2)", PearlHouse.NONE, h.trigger(2));
        Check.due("trigger(0), nobody waits for it", 1, h.trigger(0));
        h.run(1);
        Check.due("trigger(0)", 1, h.trigger(0));
        Check.due("task(1, 0)", 1, h.task(1, 0));
        Check.due("trigger(0) again", 1, h.trigger(0));
        Check.due("task(1, 3)", 1, h.task(1, 3));
        h.run(1);
        Check.due("trigger(1), disabled", 0, h.trigger(1));
        Check.due("trigger(1), kept once", 0, h.trigger(1));
        Check.due("irpt(1, 1)", 1, h.irpt(1, 1));
        Check.due("irpt(1, 2)", 0, h.irpt(1, 2));
        h = Check.begun("irpt i;task b 2{}task a 1 main{when i start b;log 1;}");
        h.run(1);
        h.trigger(0);
        Check.due("task(0, 5), without S", 1, h.task(0, 5));
        Check.due("task(0, 6), without S", 1, h.task(0, 6));
    }

    private static void irptAnswers() {
        House h = Check.read("irpt i;task a 1 main{pull i;disable i;pull i;pull i;when i start b;enable i;enable i;pull i;}task b 2{log 1;}");
        Check.due("irpt(0, 0)", PearlHouse.STATE, h.irpt(0, 0));
        h.begin();
        Check.due("irpt(-1, 0)", PearlHouse.NONE, h.irpt(-1, 0));
        Check.due("irpt(1, 9), NONE goes first", PearlHouse.NONE, h.irpt(1, 9));
        Check.due("irpt(0, -1)", PearlHouse.BAD, h.irpt(0, -1));
        Check.due("irpt(0, 3)", PearlHouse.BAD, h.irpt(0, 3));
        int[] enabled = {1, 1, 0, 0, 0, 0, 1, 1, 1};
        int[] kept = {0, 0, 0, 1, 1, 1, 0, 0, 0};
        int[] came = {0, 1, 1, 1, 1, 1, 2, 2, 3};
        for (int i = 0; i < came.length; i++) {
            Check.due("irpt(0, 0) after " + i, enabled[i], h.irpt(0, 0));
            Check.due("irpt(0, 1) after " + i, kept[i], h.irpt(0, 1));
            Check.due("irpt(0, 2) after " + i, came[i], h.irpt(0, 2));
            h.run(1);
        }
        Check.due("task(1, 5)", 2, h.task(1, 5) + h.task(1, 3));
    }

    private static void irptOrder() {
        House h = Check.begun("irpt i;task a 5{log 1;}task b 3{log 2;}task c 5{log 3;}task d 9 main{prior d 1;when i start a;when i start b;when i start c;pull i;"
            + "prior d 9;}");
        h.run(9);
        Check.logs("by priority, then by tasks", h, 2, 1, 3);
        h = Check.begun("irpt i;task a 9{log 1;}task b 1 main{when i start a;pull i;}");
        h.run(9);
        Check.logs("the last priority, too", h, 1);
        h = Check.begun("irpt i;task a 4 main{prior a 2;when i start a;when i go a;when i go b;hold a;log 1;}task b 3 main{hold b;log 2;}");
        h.run(9);
        Check.due("run(1)", 0, h.run(1));
        Check.due("task(0, 0)", 2, h.task(0, 0));
        Check.due("task(1, 0)", 2, h.task(1, 0));
        h.trigger(0);
        Check.due("task(0, 3), start ahead of go", 1, h.task(0, 3));
        Check.due("task(0, 0)", 1, h.task(0, 0));
        Check.due("task(1, 0)", 1, h.task(1, 0));
        Check.due("schedule(0, 1, 0) stays", BY_IRPT, h.schedule(0, 1, 0));
        h.run(1);
        Check.logs("a goes first, by its own priority", h, 1);
    }

    private static void send() {
        House h = Check.read("var v;in m;in n;task a 1 main{take n v;log v;take n v;log v;}");
        Check.due("send(0, 1)", PearlHouse.STATE, h.send(0, 1));
        h.begin();
        Check.due("send(-1, 1)", PearlHouse.NONE, h.send(-1, 1));
        Check.due("send(2, 1)", PearlHouse.NONE, h.send(2, 1));
        for (int i = 1; i <= 20; i++) {
            Check.due("send(0, 1)", i, h.send(0, 1));
        }
        Check.due("send(0, 1), 20 wait", PearlHouse.FULL, h.send(0, 1));
        Check.due("send(1, -5)", 1, h.send(1, -5));
        Check.due("send(1, 6)", 2, h.send(1, 6));
        Check.due("send(1, 7)", 3, h.send(1, 7));
        h.run(9);
        Check.logs("the eldest first", h, -5, 6);
        Check.due("send(1, 8)", 2, h.send(1, 8));
        h = Check.begun("var v;in n;task a 1 main{take n v;log v;}task b 1 main{take n v;}");
        h.run(5);
        Check.due("task(0, 0)", 3, h.task(0, 0));
        Check.due("send(0, 4), it is taken at once", 0, h.send(0, 4));
        Check.due("value(0)", 4, h.value(0));
        Check.due("task(0, 0)", 1, h.task(0, 0));
        Check.due("task(0, 2)", 1, h.task(0, 2));
        Check.due("task(1, 0)", 3, h.task(1, 0));
        Check.due("send(0, 5)", 0, h.send(0, 5));
        Check.due("task(1, 0), its block is over", 0, h.task(1, 0));
        Check.due("send(0, 6)", 1, h.send(0, 6));
    }

    private static void starts() {
        House h = Check.begun("task a 1 main{start b;start b;start a;log 1;}task b 2{log 2;}");
        h.run(3);
        Check.due("task(0, 3), itself", 1, h.task(0, 3));
        h.run(1);
        Check.due("task(0, 5), begun anew", 2, h.task(0, 5));
        Check.due("task(0, 0)", 1, h.task(0, 0));
        Check.due("task(0, 2)", 0, h.task(0, 2));
        Check.due("task(1, 3)", 1, h.task(1, 3));
        h = Check.begun("task a 1 main{prior a 3;start a;log 1;}");
        h.run(3);
        Check.due("task(0, 1), the told one again", 1, h.task(0, 1));
        h = Check.begun("task e 1{}task a 2 main{start e;start e;log state e;}");
        h.run(9);
        Check.due("task(0, 5), without S", 2, h.task(0, 5));
        Check.due("task(0, 6), without S", 2, h.task(0, 6));
        Check.due("task(0, 3)", 0, h.task(0, 3));
        Check.logs("DORMANT", h, 0);
    }

    private static void ends() {
        House h = Check.begun("sema s 0;bolt b;task a 1 main{start c;end c;after 5 go b1;at 9 start b1;end b1;end a;log 1;}task b1 2 main{reserve b;ask s;}"
            + "task c 3{log 9;}");
        h.run(2);
        Check.due("task(2, 0)", 0, h.task(2, 0));
        Check.due("task(2, 6)", 1, h.task(2, 6));
        h.run(3);
        Check.due("task(1, 0)", 0, h.task(1, 0));
        Check.due("schedule(1, 1, 0), to go is gone", PearlHouse.NONE, h.schedule(1, 1, 0));
        Check.due("schedule(1, 0, 0), to start stays", 9, h.schedule(1, 0, 0));
        h.run(1);
        Check.due("task(0, 0)", 0, h.task(0, 0));
        Check.due("count(3)", 0, h.count(3));
        h = Check.begun("sema s 0;bolt b;task a 2 main{start c;end c;end c;log 5;}task c 1 main{reserve b;ask s;}");
        h.run(4);
        Check.due("task(1, 0), begun anew", 1, h.task(1, 0));
        Check.due("bolt(0, 0), what it has of gates stays", 1, h.bolt(0, 0));
        h.run(1);
        Check.due("task(1, 0), it waits for itself", 3, h.task(1, 0));
        Check.due("ring(0)", 1, h.ring(0));
        h.run(1);
        Check.due("task(1, 0)", 0, h.task(1, 0));
        Check.due("task(1, 6)", 2, h.task(1, 6));
        h = Check.ran("task a 1 main{on 7{log 3;}end b;log 4;}task b 1{log 1;}", 9);
        Check.logs("DORMANT: 7", h, 3);
        h = Check.begun("sema s 0;task a 2 main{end b;give s;}task b 1 main{ask s;log 1;}");
        h.run(9);
        Check.due("sema(0), what it waits for is gone", 1, h.sema(0));
    }

    private static void holds() {
        House h = Check.begun("sema s 0;task a 5 main{hold b;log state b;hold c;log state c;go b;log state b;go c;log state c;}"
            + "task b 9 main{log 7;}task c 1 main{ask s;}");
        h.run(20);
        Check.logs("states", h, 2, 4, 1, 3, 7);
        String[] calls = {"hold d;", "hold b;hold b;", "hold c;hold c;", "go d;", "go a;", "go c;", "hold b;go b;go b;"};
        for (String s : calls) {
            h = Check.begun("sema s 0;task a 5 main{" + s + "}task b 9 main{log 7;}task c 1 main{ask s;}task d 1{log 1;}");
            h.run(9);
            Check.due(s + " induces", 7, h.induced(0, 1));
            Check.due(s + " once", 1, h.count(4));
        }
        h = Check.begun("task a 1 main{after 3 go a;hold a;log time;}");
        h.run(9);
        Check.logs("held by itself", h, 3);
    }

    private static void priors() {
        House h = Check.begun("sema s 0;task a 1 main{ask s;log 1;}task b 1 main{ask s;log 2;}task c 5 main{prior a 9;give s;give s;prior c 5;log 3;}");
        h.run(3);
        Check.due("task(0, 1)", 9, h.task(0, 1));
        Check.due("waits(2, 0, 0)", 1, h.waits(2, 0, 0));
        Check.due("waits(2, 0, 1)", 0, h.waits(2, 0, 1));
        h.run(20);
        Check.logs("served by the new one", h, 2, 3, 1);
        h = Check.begun("sema s 0;task a 2 main{ask s;}task b 2 main{ask s;}task c 5 main{prior b 3;prior b 2;prior a 2;log 1;}");
        h.run(5);
        Check.due("waits(2, 0, 0), the place stays", 0, h.waits(2, 0, 0));
        Check.due("waits(2, 0, 1)", 1, h.waits(2, 0, 1));
    }

    private static void schedules() {
        House h = Check.read("irpt i;task a 1 main{at 3 start b;after 3 go b;all 4 start a;all 4 until 9 go a;when i start c;log 1;}task b 1{log 2;}task c 1{}");
        Check.due("schedule(0, 0, 0)", PearlHouse.STATE, h.schedule(0, 0, 0));
        h.begin();
        h.run(5);
        Check.due("schedule(-1, 0, 0)", PearlHouse.NONE, h.schedule(-1, 0, 0));
        Check.due("schedule(3, 9, 9), NONE goes first", PearlHouse.NONE, h.schedule(3, 9, 9));
        Check.due("schedule(0, -1, 0)", PearlHouse.BAD, h.schedule(0, -1, 0));
        Check.due("schedule(0, 2, 0)", PearlHouse.BAD, h.schedule(0, 2, 0));
        Check.due("schedule(0, 0, -1)", PearlHouse.BAD, h.schedule(0, 0, -1));
        Check.due("schedule(0, 0, 4)", PearlHouse.BAD, h.schedule(0, 0, 4));
        int[][] due = {{6, 4, FOREVER, -1}, {7, 4, 9, -1}, {-1, 0, FOREVER, -1}, {-1, 0, FOREVER, -1}, {BY_IRPT, 0, FOREVER, 0}, {-1, 0, FOREVER, -1}};
        for (int k = 0; k < due.length; k++) {
            for (int what = 0; what < 4; what++) {
                Check.due("schedule(" + k / 2 + ", " + k % 2 + ", " + what + ")", due[k][what], h.schedule(k / 2, k % 2, what));
            }
        }
        Check.due("task(1, 5), at 3", 1, h.task(1, 5));
        Check.due("count(6)", 3, h.count(6));
        h = Check.begun("task a 1 main{at 5 start b;after 7 go b;log 1;}task b 1{log 2;}");
        h.run(2);
        Check.due("schedule(1, 0, 0)", 5, h.schedule(1, 0, 0));
        Check.due("schedule(1, 0, 1)", 0, h.schedule(1, 0, 1));
        Check.due("schedule(1, 1, 0)", 8, h.schedule(1, 1, 0));
        Check.due("schedule(1, 1, 1)", 0, h.schedule(1, 1, 1));
        h = Check.begun("task a 1 main{all 3 until 10 start b;}task b 1{log time;}");
        Check.due("run(50)", 2, h.run(50));
        Check.logs("all 3 until 10", h, 3, 6, 9);
        Check.due("schedule(1, 0, 0), it is gone", PearlHouse.NONE, h.schedule(1, 0, 0));
        h = Check.begun("task a 1 main{all 3 until 9 start b;}task b 1{log time;}");
        h.run(50);
        Check.logs("until itself, too", h, 3, 6, 9);
        h = Check.begun("task a 1 main{at 0 start b;}task b 1{log time;}");
        h.run(50);
        Check.logs("at TIME: in the next grain", h, 1);
    }

    private static void scheduleSpans() {
        String[] good = {"at 100000000*10 start b;", "after 100000000*10 start b;", "all 100000000*10 go b;", "all 5 until 5 go b;", "all 5 until 200000000*10 go b;",
            "at 0 go b;", "after 1 go b;"};
        for (String s : good) {
            House h = Check.ran("task a 1 main{" + s + "log 1;}task b 1{log 1;}", 1);
            Check.due(s + " induces", 0, h.count(4));
            Check.due(s + " is there", 1, h.count(6));
        }
        String[] bad = {"at 0-1 start b;", "at 100000000*10+1 start b;", "after 100000000*10+1 start b;", "after -5 start b;", "all -1 start b;",
            "all 100000000*10+1 start b;", "all 5 until -1 start b;", "all 5 until 4 start b;", "after 0 go b;", "all 0 until 5 go b;"};
        for (String s : bad) {
            House h = Check.ran("task a 1 main{" + s + "log 1;}task b 1{log 1;}", 1);
            Check.due(s + " induces", 9, h.induced(0, 1));
            Check.due(s + " is none", 0, h.count(6));
        }
        House h = Check.ran("task a 1 main{log 1;after 100000000*10 start b;}task b 1{log 1;}", 2);
        Check.due("TIME 1 and 1000000000", 9, h.induced(0, 1));
        h = Check.ran("task a 1 main{log 1;log 2;at 1 start b;}task b 1{log 1;}", 3);
        Check.due("below TIME", 9, h.induced(0, 1));
        h = Check.begun("task a 1 main{all 300000000*2 start b;}task b 1{log time;}");
        Check.due("run(9)", 2, h.run(9));
        Check.logs("none behind 1000000000", h, 600000000);
        h = Check.begun("task a 1 main{all 500000000 start b;}task b 1{log time;}");
        Check.due("run(9)", 2, h.run(9));
        Check.logs("1000000000 itself", h, 500000000, 1000000000);
    }

    private static void scheduleOrder() {
        House h = Check.begun("task m 1 main{at 9 start c;at 9 start a;at 8 start d;at 9 start b;hold m;}task a 5{log 1;}task b 5{log 2;}task c 5{log 3;}task d 6{log 4;}");
        h.run(5);
        h.run(1);
        Check.due("count(0), to the next time", 8, h.count(0));
        h.run(9);
        Check.logs("by times, then by tasks", h, 4, 1, 2, 3);
        h = Check.begun("task a 1 main{at 3 go a;at 3 start a;hold a;log 1;}");
        h.run(4);
        Check.due("task(0, 5), both of one time act", 2, h.task(0, 5));
        h = Check.begun("task a 1 main{at 3 go b;at 3 go a;log 1;log 2;log 3;log 4;}task b 2{log 5;}");
        h.run(20);
        Check.due("a go that is barred: nothing", 0, h.count(4));
        Check.due("task(1, 5)", 0, h.task(1, 5));
    }

    private static void schedulesTooMany() {
        StringBuilder text = new StringBuilder("irpt i;task a 1 main{on 7{log 7;log 8;}");
        for (char t = 'a'; t <= 'f'; t++) {
            text.append("after 50 start ").append(t).append(";when i go ").append(t).append(";");
        }
        text.append("all 9 start a;when i start b;at 90 start g;}");
        for (char t = 'b'; t <= 'h'; t++) {
            text.append("task ").append(t).append(" 1{log 1;}");
        }
        House h = Check.begun(text.toString());
        h.run(12);
        Check.due("count(6)", 12, h.count(6));
        h.run(2);
        Check.due("in the place of the old one", 0, h.count(4));
        Check.due("count(6)", 12, h.count(6));
        Check.due("schedule(0, 0, 1)", 9, h.schedule(0, 0, 1));
        Check.due("schedule(1, 0, 3)", 0, h.schedule(1, 0, 3));
        h.run(1);
        Check.due("the thirteenth", 7, h.induced(0, 1));
        Check.due("count(6)", 12, h.count(6));
        h = Check.begun(text.toString().replace("at 90 start g;", "at 0 start g;"));
        h.run(15);
        Check.due("9 goes ahead of 7", 9, h.induced(0, 1));
    }

    private static void schedulesGone() {
        House h = Check.begun("irpt i;task a 1 main{all 2 start b;when i go b;after 50 start c;prevent b;prevent b;log 1;}task b 1{log 5;}task c 1{log 6;}");
        h.run(5);
        Check.due("count(6)", 1, h.count(6));
        Check.due("schedule(1, 0, 0)", PearlHouse.NONE, h.schedule(1, 0, 0));
        Check.due("schedule(1, 1, 3)", PearlHouse.NONE, h.schedule(1, 1, 3));
        Check.due("schedule(2, 0, 0)", 52, h.schedule(2, 0, 0));
        h = Check.begun("task a 1 main{after 50 go a;after 50 start a;}");
        h.run(2);
        Check.due("schedule(0, 1, 0), its block is over", PearlHouse.NONE, h.schedule(0, 1, 0));
        Check.due("schedule(0, 0, 0)", 51, h.schedule(0, 0, 0));
        h = Check.begun("task x 1{log 1;}task e 1{}task a 1 main{after 50 go e;after 60 start e;after 70 go a;after 80 go x;start e;log 1;}");
        h.run(5);
        Check.due("schedule(1, 1, 0), it ENDS as it begins", PearlHouse.NONE, h.schedule(1, 1, 0));
        Check.due("schedule(1, 0, 0)", 61, h.schedule(1, 0, 0));
        Check.due("schedule(2, 1, 0)", 72, h.schedule(2, 1, 0));
        Check.due("schedule(0, 1, 0)", 83, h.schedule(0, 1, 0));
        h = Check.begun("task a 1 main{after 50 go a;induce 11;}");
        h.run(2);
        Check.due("schedule(0, 1, 0), ended by a signal", PearlHouse.NONE, h.schedule(0, 1, 0));
    }

    private static void semas() {
        House h = Check.read("sema s 1;sema u 0;task a 1 main{ask s;give u;give u;ask s;log 1;}task b 2 main{give s;}");
        Check.due("sema(0)", PearlHouse.STATE, h.sema(0));
        h.begin();
        Check.due("sema(-1)", PearlHouse.NONE, h.sema(-1));
        Check.due("sema(2)", PearlHouse.NONE, h.sema(2));
        Check.due("sema(0)", 1, h.sema(0));
        h.run(3);
        Check.due("sema(0)", 0, h.sema(0));
        Check.due("sema(1)", 2, h.sema(1));
        h.run(1);
        Check.due("task(0, 0)", 3, h.task(0, 0));
        Check.due("task(0, 2), the S in which it waits", 3, h.task(0, 2));
        h.run(1);
        Check.due("sema(0), served at once", 0, h.sema(0));
        Check.due("task(0, 0)", 1, h.task(0, 0));
        Check.due("task(0, 2)", 4, h.task(0, 2));
        Check.due("count(2), a served one is not counted twice", 5, h.count(2));
    }

    private static void semaLists() {
        House h = Check.begun("sema s 2;sema u 0;task a 1 main{ask s,s;give s,u,s;ask u,s;log 1;ask s,s;log 2;}");
        h.run(3);
        Check.due("sema(0)", 1, h.sema(0));
        Check.due("sema(1)", 0, h.sema(1));
        Check.due("run(9)", 0, h.run(9));
        Check.logs("s is wanted twice", h, 1);
        Check.due("sema(0), none goes", 1, h.sema(0));
        h = Check.begun("sema s 7;task a 1 main{on 8{log 8;}give s,s;give s;log 1;}");
        h.run(9);
        Check.logs("above 9", h, 8);
        Check.due("sema(0)", 9, h.sema(0));
        h = Check.begun("sema s 8;task a 1 main{on 8{log 8;}give s,s;log 1;}");
        h.run(9);
        Check.due("sema(0), twice is above 9", 8, h.sema(0));
    }

    private static void semaServing() {
        House h = Check.begun("sema s 0;sema u 0;task a 3 main{ask s,u;log 1;}task b 4 main{ask s;log 2;}task c 4 main{ask u;log 3;}task d 9 main{give s;give s;give u;log 4;}");
        h.run(3);
        h.run(1);
        Check.due("task(0, 0), a can't have both", 3, h.task(0, 0));
        Check.due("task(1, 0), b can", 1, h.task(1, 0));
        h.run(20);
        Check.logs("a goes ahead of c", h, 2, 1, 4);
        Check.due("task(2, 0)", 3, h.task(2, 0));
        h = Check.begun("sema s 0;task a 3 main{ask s;log 1;}task b 3 main{ask s;log 2;}task d 9 main{give s,s;log 4;}");
        h.run(20);
        Check.logs("as they began to wait", h, 1, 2, 4);
        h = Check.read("sema s 0;task a 2 main{ask s;log 1;}task b 2 main{log 2;log 3;log 4;}task d 3 main{give s;}");
        h.processors(2);
        h.begin();
        h.run(20);
        Check.logs("one that is served becomes READY behind", h, 2, 3, 4, 1);
    }

    /** What a text with a fault told of semas is nothing to the next one: each is asked, given and served as told. */
    private static void semasBehindFaults() {
        String[] faults = {"sema a 1;sema b", "sema a 1;sema b;", "sema a 1;sema b 10;", "sema a;", "sema a 1;sema b 2;sema c 3;sema d", "sema a 9;sema b 9;sema c 9;sema d 9;&"};
        for (String fault : faults) {
            House h = new House();
            Check.feed(h, fault);
            Check.due("module() of " + fault, 1, h.module() < -10 ? 1 : 0);
            Check.feed(h, "sema a 1;task t 1 main{ask a;ask a;log 5;}task u 2 main{give a;}");
            Check.due("module() behind " + fault, 2, h.module());
            h.begin();
            Check.due("sema(0) as told, behind " + fault, 1, h.sema(0));
            h.run(1);
            Check.due("sema(0), asked behind " + fault, 0, h.sema(0));
            Check.due("task(0, 0), it does not wait behind " + fault, 1, h.task(0, 0));
            h.run(2);
            Check.due("task(0, 0), it is served behind " + fault, 1, h.task(0, 0));
            Check.due("sema(1) behind " + fault, PearlHouse.NONE, h.sema(1));
            Check.due("run(9) behind " + fault, 2, h.run(9));
            Check.logs("behind " + fault, h, 5);
        }
    }

    private static void bolts() {
        House h = Check.read("bolt b;task a 1 main{reserve b;log 1;free b;enter b;enter b;leave b;leave b;leave b;}");
        Check.due("bolt(0, 0)", PearlHouse.STATE, h.bolt(0, 0));
        h.begin();
        Check.due("bolt(-1, 0)", PearlHouse.NONE, h.bolt(-1, 0));
        Check.due("bolt(1, 99), NONE goes first", PearlHouse.NONE, h.bolt(1, 99));
        Check.due("bolt(0, -1)", PearlHouse.BAD, h.bolt(0, -1));
        Check.due("bolt(0, 2)", 0, h.bolt(0, 2));
        Check.due("bolt(0, 3), no such task", PearlHouse.BAD, h.bolt(0, 3));
        Check.due("bolt(0, 2147483647)", PearlHouse.BAD, h.bolt(0, 2147483647));
        Check.due("bolt(0, -2147483648)", PearlHouse.BAD, h.bolt(0, -2147483648));
        Check.due("bolt(0, 0), free", PearlHouse.NONE, h.bolt(0, 0));
        h.run(1);
        Check.due("bolt(0, 0)", 0, h.bolt(0, 0));
        h.run(2);
        Check.due("bolt(0, 0)", PearlHouse.NONE, h.bolt(0, 0));
        h.run(2);
        Check.due("bolt(0, 1)", 2, h.bolt(0, 1));
        Check.due("bolt(0, 2)", 2, h.bolt(0, 2));
        h.run(2);
        Check.due("bolt(0, 1)", 0, h.bolt(0, 1));
        h.run(1);
        Check.due("leave, not entered", 8, h.induced(0, 1));
        h = Check.begun("bolt b;task a 1 main{reserve b;hold a;log 1;}task c 2 main{on 8{log 8;log 9;}free b;}");
        h.run(9);
        Check.logs("free, reserved by another", h, 8, 9);
        Check.due("bolt(0, 0)", 0, h.bolt(0, 0));
    }

    private static void boltEntering() {
        String text = "bolt b;task a 1 main{enter b;hold a;log 1;}task r 5 main{reserve b;log 2;}task e 6 main{PRIO enter b;log 3;hold e;log 5;}task f 9 main{log 4;go a;}";
        House h = Check.begun(text.replace("PRIO", ""));
        h.run(4);
        Check.due("task(2, 0), behind who waits to reserve", 3, h.task(2, 0));
        h = Check.begun(text.replace("PRIO", "prior e 5;"));
        h.run(5);
        Check.due("task(2, 0), as good a priority", 3, h.task(2, 0));
        h = Check.begun(text.replace("PRIO", "prior e 4;"));
        h.run(5);
        Check.due("task(2, 0), a better priority", 1, h.task(2, 0));
        Check.due("bolt(0, 1)", 2, h.bolt(0, 1));
        Check.due("bolt(0, 4)", 1, h.bolt(0, 4));
        h = Check.begun("bolt b;task r 2 main{reserve b;log 2;}task a 1 main{enter b;hold a;log 1;}task e 3 main{enter b;log 3;}");
        h.run(5);
        Check.due("task(2, 0), the first task waits to reserve", 3, h.task(2, 0));
        h = Check.begun("bolt b;task a 1 main{reserve b;hold a;log 1;}task e 1 main{enter b;log 2;}");
        h.run(4);
        Check.due("task(1, 0), reserved", 3, h.task(1, 0));
        h = Check.begun("bolt b;task a 1 main{enter b;hold a;log 1;}task e 1 main{reserve b;log 2;}");
        h.run(4);
        Check.due("task(1, 0), entered", 3, h.task(1, 0));
    }

    private static void boltServing() {
        House h = Check.begun("bolt b;task a 1 main{reserve b;hold a;free b;log 1;}task r 5 main{reserve b;log 2;free b;}task e 4 main{enter b;log 3;leave b;log 6;}"
            + "task f 6 main{enter b;log 4;}task g 9 main{go a;}");
        h.run(5);
        Check.due("waits(3, 0, 0)", 2, h.waits(3, 0, 0));
        Check.due("waits(3, 0, 1)", 1, h.waits(3, 0, 1));
        Check.due("waits(3, 0, 2)", 3, h.waits(3, 0, 2));
        h.run(2);
        Check.due("bolt(0, 1), e alone", 1, h.bolt(0, 1));
        Check.due("task(3, 0), f is behind r", 3, h.task(3, 0));
        h.run(20);
        Check.logs("e, r, f", h, 1, 3, 6, 2, 4);
        h = Check.begun("bolt b;task a 1 main{enter b;hold a;log 1;}task r 2 main{reserve b;log 2;}task e 3 main{enter b;log 3;}task g 9 main{end r;log 4;}");
        h.run(5);
        Check.due("task(2, 0), it is served as r has ended", 1, h.task(2, 0));
        h = Check.begun("bolt b;task a 1 main{enter b;hold a;log 1;}task r 2 main{reserve b;log 2;}task e 3 main{enter b;log 3;}task g 9 main{prior r 4;log 4;}");
        h.run(5);
        Check.due("task(2, 0), it is served as r is behind", 1, h.task(2, 0));
    }

    private static void heldWaiters() {
        House h = Check.begun("sema s 0;task a 1 main{ask s;log 1;}task b 2 main{hold a;give s;log state a;go a;log 2;}");
        h.run(2);
        Check.due("task(0, 0)", 4, h.task(0, 0));
        Check.due("waits(2, 0, 0)", 0, h.waits(2, 0, 0));
        h.run(1);
        Check.due("task(0, 0), served and held", 2, h.task(0, 0));
        Check.due("sema(0)", 0, h.sema(0));
        Check.due("task(0, 2)", 1, h.task(0, 2));
        h.run(20);
        Check.logs("then it goes on", h, 2, 1, 2);
        h = Check.begun("sema s 0;task a 1 main{ask s;log 1;}task b 2 main{after 5 go a;hold a;log 3;}");
        h.run(9);
        Check.due("task(0, 0), go of one that waits", 3, h.task(0, 0));
    }

    private static void takes() {
        House h = Check.begun("var v;var w;in n;task a 2 main{take n v;log v;}task b 1 main{take n w;log w;}");
        h.run(5);
        Check.due("waits(5, 0, 0)", 1, h.waits(5, 0, 0));
        Check.due("waits(5, 0, 1)", 0, h.waits(5, 0, 1));
        h.send(0, 70);
        h.send(0, 80);
        Check.due("value(1)", 70, h.value(1));
        Check.due("value(0)", 80, h.value(0));
        h.run(9);
        Check.logs("by priority", h, 70, 80);
        h = Check.begun("var v=3;in n;task a 2 main{take n v;}");
        h.send(0, -2147483648);
        h.run(1);
        Check.due("value(0), without waiting", -2147483648, h.value(0));
        Check.due("task(0, 0)", 0, h.task(0, 0));
    }

    private static void sent() {
        House h = Check.read("var a;out o;out p;task t 1 main{on 8{log a;}put p -5;while 1{a=a+1;put o a;}}");
        Check.due("sent(0, NONE), no run", 0, h.sent(0, -1));
        h.begin();
        Check.due("sent(0, NONE)", 0, h.sent(0, -1));
        h.run(200);
        Check.logs("40 are there", h, 41);
        Check.due("sent(0, NONE)", 40, h.sent(0, -1));
        Check.due("sent(0, 0)", 1, h.sent(0, 0));
        Check.due("sent(0, 39)", 40, h.sent(0, 39));
        Check.due("sent(0, 40)", 0, h.sent(0, 40));
        Check.due("sent(0, -2)", 0, h.sent(0, -2));
        Check.due("sent(1, 0)", -5, h.sent(1, 0));
        Check.due("sent(1, NONE)", 1, h.sent(1, -1));
        Check.due("sent(2, NONE)", 0, h.sent(2, -1));
        Check.due("sent(-1, 0)", 0, h.sent(-1, 0));
    }

    private static void waits() {
        House h = Check.read("sema s 0;sema u 0;bolt b;in n;var v;task a 2 main{ask s,u,s;}task c 1 main{ask u;}task d 2 main{ask s;}task e 3 main{take n v;}"
            + "task f 4 main{reserve b;reserve b;}");
        Check.due("waits(2, 0, 0)", PearlHouse.STATE, h.waits(2, 0, 0));
        Check.due("waits(9, 0, 0), STATE goes first", PearlHouse.STATE, h.waits(9, 0, 0));
        h.begin();
        h.run(20);
        for (int sort = -1; sort < 10; sort++) {
            if (sort != 2 && sort != 3 && sort != 5) {
                Check.due("waits(" + sort + ", 0, 0)", PearlHouse.BAD, h.waits(sort, 0, 0));
            }
        }
        Check.due("waits(2, 0, 0)", 0, h.waits(2, 0, 0));
        Check.due("waits(2, 0, 1)", 2, h.waits(2, 0, 1));
        Check.due("waits(2, 0, 2)", PearlHouse.NONE, h.waits(2, 0, 2));
        Check.due("waits(2, 0, -1)", PearlHouse.NONE, h.waits(2, 0, -1));
        Check.due("waits(2, 1, 0)", 1, h.waits(2, 1, 0));
        Check.due("waits(2, 1, 1)", 0, h.waits(2, 1, 1));
        Check.due("waits(2, 2, 0)", PearlHouse.NONE, h.waits(2, 2, 0));
        Check.due("waits(2, -1, 0)", PearlHouse.NONE, h.waits(2, -1, 0));
        Check.due("waits(5, 0, 0)", 3, h.waits(5, 0, 0));
        Check.due("waits(3, 0, 0)", 4, h.waits(3, 0, 0));
        Check.due("waits(3, 0, 1)", PearlHouse.NONE, h.waits(3, 0, 1));
    }

    private static void rings() {
        House h = Check.read("bolt b;bolt c;task x 9 main{log 1;}task a 1 main{reserve b;hold a;reserve c;}task d 2 main{reserve c;go a;enter b;}task e 3 main{enter b;}");
        Check.due("ring(0)", PearlHouse.STATE, h.ring(0));
        h.begin();
        Check.due("ring(0)", PearlHouse.NONE, h.ring(0));
        h.run(20);
        Check.due("ring(0)", 1, h.ring(0));
        Check.due("ring(1)", 2, h.ring(1));
        Check.due("ring(2), e waits but is in none", PearlHouse.NONE, h.ring(2));
        Check.due("ring(-1)", PearlHouse.NONE, h.ring(-1));
        Check.due("task(3, 0)", 3, h.task(3, 0));
        h = Check.ran("bolt b;bolt c;bolt d;task a 2 main{reserve b;reserve c;}task e 1 main{reserve c;hold e;reserve d;}task f 3 main{reserve d;go e;reserve b;}", 20);
        for (int k = 0; k < 3; k++) {
            Check.due("ring(" + k + "), a ring of three", k, h.ring(k));
        }
        Check.due("ring(3)", PearlHouse.NONE, h.ring(3));
        h = Check.ran("bolt b;task a 1 main{reserve b;reserve b;}", 1);
        Check.due("ring(0), it waits not yet", PearlHouse.NONE, h.ring(0));
        h = Check.ran("bolt b;task a 1 main{enter b;reserve b;}", 5);
        Check.due("ring(0), for itself", 0, h.ring(0));
        h = Check.ran("bolt b;task a 1 main{reserve b;enter b;}", 5);
        Check.due("ring(0), for itself", 0, h.ring(0));
        h = Check.ran("bolt b;task a 1 main{enter b;hold a;reserve b;}task c 2 main{enter b;go a;reserve b;}", 9);
        Check.due("ring(0), each entered it", 0, h.ring(0));
        Check.due("ring(1)", 1, h.ring(1));
        h = Check.ran("bolt b;bolt c;task a 1 main{enter b;hold a;reserve c;log 1;}task d 2 main{reserve b;}task e 3 main{reserve c;go a;enter b;}", 9);
        Check.due("task(2, 0), e waits behind d", 3, h.task(2, 0));
        Check.due("ring(0), to enter one waits for who reserved alone", PearlHouse.NONE, h.ring(0));
        h = Check.ran("sema s 0;bolt b;task a 1 main{reserve b;ask s;}task c 2 main{reserve b;}", 9);
        Check.due("ring(0), a waits for no bolt", PearlHouse.NONE, h.ring(0));
    }
}
