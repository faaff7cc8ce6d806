// Terms, 3 TASKS: semas, bolts, stations, who is served, rings. Each test says the sentence of the document that it holds.
public final class GatesTest extends Check {
    public static void main(String[] args) throws IllegalAccessException {
        all(GatesTest.class);
    }

    @Holds("Terms: ask: if each sema has what the list wants (one for each time it stands there), these go, else the task WAITS.")
    private static void asks() {
        House h = ran("sema s 4;sema u 1;task a 1 main{ask s,u,s;ask s;ask s,u;}", 1);
        due(2, h.sema(0));
        due(0, h.sema(1));
        due(1, h.task(0, 0));
        h.run(1);
        due(1, h.sema(0));
        h.run(1);
        due(3, h.task(0, 0));
        due(2, h.task(0, 2));
        due(1, h.sema(0));
        due(0, h.sema(1));
        due(3, h.count(2));
        for (int n = 0; n <= 5; n++) {
            h = ran("sema s " + n + ";task a 1 main{ask s,s,s,s;log 1;}", 1);
            due("ask of 4 where there are " + n, n < 4 ? 3 : 1, h.task(0, 0));
            due(n < 4 ? n : n - 4, h.sema(0));
        }
        h = ran("sema s 0;task a 1 main{ask s;}", 1);
        due(3, h.task(0, 0));
        h = ran("sema s 1;sema u 0;task a 1 main{ask s,u;}task b 2 main{ask s;log 1;}", 3);
        logs("one that WAITS for more has none of it", h, 1);
        h = ran("sema s 9;sema t 9;sema u 9;sema v 9;task a 1 main{ask s,t,u,v;ask v,v,v,v;}", 2);
        int[] due = {8, 8, 8, 4};
        for (int i = 0; i < 4; i++) {
            due(due[i], h.sema(i));
        }
    }

    @Holds("Terms: give: each has one more (8: above 9).")
    private static void gives() {
        House h = ran("sema s 0;sema u 5;task a 1 main{give s;give s,u,s;give u,u,u;log 1;}", 3);
        due(3, h.sema(0));
        due(9, h.sema(1));
        due(0, h.count(4));
        for (int n = 4; n <= 9; n++) {
            h = ran("sema s " + n + ";task a 1 main{give s,s,s,s;log 1;}", 1);
            due("give of 4 where there are " + n, n + 4 > 9 ? 8 : -1, h.induced(0, 1));
            due(n + 4 > 9 ? n : n + 4, h.sema(0));
        }
        h = ran("sema s 9;task a 1 main{on 8{log 8;}give s;log 1;}", 3);
        logs("above 9", h, 8);
        due(9, h.sema(0));
        h = ran("sema s 0;sema u 9;task a 1 main{give s,u;}", 1);
        due(8, h.induced(0, 1));
        due(0, h.sema(0));
        h = ran("sema s 0;task a 1 main{ask s;}task b 2 main{give s,s,s,s;give s,s,s,s;give s,s;log 1;}", 4);
        due(9, h.sema(0));
        due(0, h.count(4));
    }

    @Holds("Terms: reserve: a bolt that nobody reserved or entered, else the task WAITS.")
    private static void reserves() {
        House h = ran("bolt b;bolt c;task a 1 main{reserve b;reserve c;reserve b;}", 2);
        due(0, h.bolt(0, 0));
        due(0, h.bolt(1, 0));
        due(1, h.task(0, 0));
        h.run(1);
        due(3, h.task(0, 0));
        h = ran("bolt b;task a 1 main{reserve b;hold a;log 1;}task d 2 main{reserve b;log 1;}", 3);
        due(3, h.task(1, 0));
        due(0, h.bolt(0, 0));
        h = ran("bolt b;task a 1 main{enter b;hold a;log 1;}task d 2 main{reserve b;log 1;}", 3);
        due(3, h.task(1, 0));
        due(NONE, h.bolt(0, 0));
        h = ran("bolt b;task a 1 main{enter b;reserve b;log 1;}", 2);
        due(3, h.task(0, 0));
        h = ran("bolt b;bolt c;task a 1 main{reserve b;hold a;log 1;}task d 2 main{reserve c;log 1;}", 3);
        due(1, h.bolt(1, 0));
    }

    @Holds("Terms: free: one that it has reserved (else 8).")
    private static void frees() {
        House h = ran("bolt b;task a 1 main{reserve b;free b;reserve b;free b;free b;}", 4);
        due(NONE, h.bolt(0, 0));
        due(0, h.count(4));
        h.run(1);
        due(8, h.induced(0, 1));
        String[] wrong = {"free b;", "enter b;free b;", "reserve c;free b;"};
        for (String s : wrong) {
            due("signal of " + s, 8, ran("bolt b;bolt c;task a 1 main{" + s + "log 1;}", 2).induced(0, 1));
        }
        h = ran("bolt b;task a 1 main{reserve b;hold a;log 1;}task d 2 main{free b;}", 3);
        due(8, h.induced(0, 1));
        due(0, h.bolt(0, 0));
    }

    @Holds("Terms: enter: a bolt that nobody reserved, if none that WAITS to reserve it has as good a PRIORITY or a better one, else it WAITS;")
    private static void enters() {
        for (int p = 1; p <= 9; p++) {
            House h = ran("bolt b;task x 1 main{enter b;hold x;log 1;}task r 5 main{reserve b;log 2;}task m 6 main{start e;prior e " + p + ";hold m;log 9;}task e 9{enter b;hold e;log 3;}", 8);
            due("state with PRIORITY " + p, p < 5 ? 2 : 3, h.task(3, 0));
            due("how often it is entered, with PRIORITY " + p, p < 5 ? 2 : 1, h.bolt(0, 1));
        }
        House h = ran("bolt b;task x 1 main{reserve b;hold x;log 1;}task e 1 main{enter b;log 3;}", 3);
        due(3, h.task(1, 0));
        due(0, h.bolt(0, 1));
        h = ran("bolt b;task x 1 main{reserve b;enter b;log 1;}", 3);
        due(3, h.task(0, 0));
        h = ran("bolt b;bolt c;task x 1 main{enter b;enter c;hold x;log 1;}task r 2 main{reserve c;}task e 3 main{enter b;log 3;hold e;log 4;}", 6);
        due(2, h.bolt(0, 1));
        h = ran("bolt b;task x 1 main{enter b;hold x;log 1;}task f 2 main{reserve b;}task m 3 main{hold f;hold m;log 1;}task e 4 main{enter b;log 3;}", 6);
        due(4, h.task(1, 0));
        due(3, h.task(3, 0));
        h = ran("bolt b;task r 2 main{reserve b;}task x 1 main{enter b;hold x;log 1;}task e 3 main{enter b;log 3;}", 4);
        due(3, h.task(2, 0));
    }

    @Holds("Terms: one may enter several times.")
    private static void entersSeveralTimes() {
        House h = ran("bolt b;task a 1 main{enter b;enter b;enter b;hold a;log 1;}task d 2 main{enter b;enter b;hold d;log 1;}", 7);
        due(5, h.bolt(0, 1));
        due(3, h.bolt(0, 2));
        due(2, h.bolt(0, 3));
        due(NONE, h.bolt(0, 0));
    }

    @Holds("Terms: leave: one that it has entered (else 8).")
    private static void leaves() {
        House h = ran("bolt b;task a 1 main{enter b;enter b;leave b;leave b;leave b;}", 3);
        due(1, h.bolt(0, 2));
        h.run(1);
        due(0, h.bolt(0, 2));
        due(0, h.count(4));
        h.run(1);
        due(8, h.induced(0, 1));
        due(0, h.bolt(0, 1));
        String[] wrong = {"leave b;", "reserve b;leave b;", "enter c;leave b;"};
        for (String s : wrong) {
            due("signal of " + s, 8, ran("bolt b;bolt c;task a 1 main{" + s + "log 1;}", 2).induced(0, 1));
        }
        h = ran("bolt b;task a 1 main{enter b;hold a;log 1;}task d 2 main{leave b;}", 3);
        due(8, h.induced(0, 1));
        due(1, h.bolt(0, 1));
        h = ran("bolt b;bolt c;task a 1 main{enter b;enter c;hold a;log 1;}task d 2 main{enter b;enter c;leave c;leave b;log 1;}", 7);
        due(1, h.bolt(0, 2));
        due(1, h.bolt(1, 2));
        due(0, h.bolt(0, 3));
        due(0, h.bolt(1, 3));
    }

    @Holds("Terms: take: the eldest number in the in comes to the var; without one the task WAITS.")
    private static void takes() {
        House h = begun("var v=1;var w=2;in m;in n;task a 1 main{take n v;take n w;take n v;log 1;}");
        h.send(1, 7);
        h.send(1, 8);
        h.send(0, 9);
        h.run(2);
        due(7, h.value(0));
        due(8, h.value(1));
        due(0, h.count(4));
        h.run(1);
        due(3, h.task(0, 0));
        due(2, h.task(0, 2));
        due(7, h.value(0));
        due(0, h.send(1, -6));
        due(-6, h.value(0));
        due(1, h.task(0, 0));
        due(2, h.send(0, 1));
        h = begun("var v;sema s 3;bolt b;in n;task a 1 main{take n v;take n v;log 1;}");
        h.send(0, 2);
        h.run(2);
        h.send(0, 4);
        due(NONE, h.bolt(0, 0));
        due(0, h.bolt(0, 1));
        due(3, h.sema(0));
        h = begun("var v;var c;in n;task a 1 main{while c<20{take n v;log v;c=c+1;}}");
        for (int i = 0; i < 20; i++) {
            h.send(0, 100 + i);
        }
        h.run(100);
        for (int i = 0; i < 20; i++) {
            due(100 + i, h.logged(i));
        }
        due(1, h.send(0, 1));
    }

    @Holds("Terms: take: the eldest number in the in comes to the var; without one the task WAITS.")
    private static void takesInTurnHoweverOftenTheInWasFull() {
        House h = begun("var v;in m;in n;in o;task a 1 main{while 1{take n v;log v;}}");
        int next = 0;
        int taken = 0;
        for (int round = 0; round < 5; round++) {
            while (next - taken < 20) {
                next++;
                due(next - taken, h.send(1, next));
            }
            due(FULL, h.send(1, 99));
            h.run(3 * 13);
            taken += 13;
            due(taken, h.count(3));
        }
        for (int i = 0; i < taken; i++) {
            due(i + 1, h.logged(i));
        }
    }

    @Holds("Terms: put: behind what is in the out (8: 40 are there).")
    private static void puts() {
        House h = begun("var a;out o;out p;task t 1 main{on 8{log a;}put p 9;put o -5;while 1{a=a+1;put o a;}}");
        h.run(119);
        due(40, h.sent(0, NONE));
        due(0, h.count(4));
        h.run(3);
        due(8, h.induced(0, 1));
        due(40, h.sent(0, NONE));
        due(-5, h.sent(0, 0));
        for (int i = 1; i < 40; i++) {
            due(i, h.sent(0, i));
        }
        due(1, h.sent(1, NONE));
        due(9, h.sent(1, 0));
    }

    @Holds("Terms: Behind each S, each schedule that acts, each send() those that WAIT are SERVED:")
    private static void servedBehindEachStatement() {
        House h = ran("sema s 0;task a 1 main{ask s;log 1;}task b 2 main{give s;}", 2);
        due(0, h.sema(0));
        due(1, h.task(0, 0));
        due(1, h.task(0, 2));
        h = ran("bolt b;task x 1 main{enter b;hold x;leave b;log 1;}task r 2 main{reserve b;log 2;}task m 4 main{go x;}", 5);
        due(1, h.bolt(0, 0));
        due(1, h.task(1, 0));
        h = ran("bolt b;task x 1 main{reserve b;hold x;free b;log 1;}task r 2 main{reserve b;log 2;}task m 4 main{go x;}", 5);
        due(1, h.bolt(0, 0));
        due(1, h.task(1, 0));
        for (String act : new String[] {"end r;", "prior r 9;", "prior r 4;", "prior e 1;"}) {
            h = ran("bolt b;task x 1 main{enter b;hold x;log 1;}task r 2 main{reserve b;}task e 3 main{enter b;log 3;}task m 4 main{" + act + "log 5;}", 5);
            due("served behind " + act, 1, h.task(2, 0));
            due("entered behind " + act, 2, h.bolt(0, 1));
        }
    }

    @Holds("Terms: Behind each S, each schedule that acts, each send() those that WAIT are SERVED:")
    private static void servedBetweenStatementsAndBehindSend() {
        House h = begun("sema s 0;task w 1 main{ask s;log 1;}task g 2 main{log 0;give s;hold g;log 2;}task q 3 main{ask s;log 3;}", 2);
        h.run(2);
        due(1, h.task(0, 0));
        due(3, h.task(2, 0));
        due(0, h.sema(0));
        h = begun("var v;in n;task a 1 main{take n v;log v;}");
        h.run(1);
        due(0, h.send(0, 4));
        due(1, h.task(0, 0));
        h = begun("sema s 0;task a 2 main{hold a;log 1;}task c 1 main{ask s;log 2;}task b 3 main{after 4 go a;give s;hold b;log 1;}");
        h.run(9);
        due(2, h.logged(0));
        due(1, h.logged(1));
    }

    @Holds("Terms: the first, by PRIORITY, then as they began to wait, that can have what it waits for has it,")
    private static void theFirstThatCan() {
        House h = ran("sema s 0;task a 5 main{ask s;log 1;}task b 3 main{ask s;log 2;}task c 5 main{ask s;log 3;}task d 4 main{ask s;log 4;}task m 9 main{prior m 1;give s;give s;give s;give s;prior m 9;}", 30);
        logs("by PRIORITY, then as they began to wait", h, 2, 4, 1, 3);
        h = ran("sema s 0;task a 5 main{ask s;log 1;}task b 5 main{hold b;ask s;log 2;}task c 5 main{ask s;log 3;}task m 9 main{go b;give s;give s;give s;}", 30);
        logs("as they began to wait, not as they stand", h, 1, 3, 2);
        h = ran("sema s 0;sema u 0;task a 3 main{ask s,u;log 1;}task b 4 main{ask s;log 2;}task c 9 main{give s;log 5;give s;give u;}", 30);
        logs("the first that can", h, 2, 5, 1);
        h = ran("sema s 0;task a 3 main{ask s,s;log 1;}task b 4 main{ask s;log 2;}task c 9 main{give s,s;log 3;}", 30);
        logs("the first has it whole", h, 1, 3);
        due(3, h.task(1, 0));
    }

    @Holds("Terms: and becomes READY (HELD, if 4), again and again till none can.")
    private static void becomesReadyOrHeld() {
        House h = ran("sema s 0;task a 1 main{ask s;log 1;}task b 1 main{ask s;log 2;}task c 1 main{ask s;log 3;}task m 5 main{hold b;give s,s;log 9;}", 5);
        due(0, h.sema(0));
        due(1, h.task(0, 0));
        due(2, h.task(1, 0));
        due(3, h.task(2, 0));
        due(1, h.task(0, 2));
        due(3, h.task(1, 2));
        due(4, h.task(2, 2));
        h = ran("bolt b;task x 1 main{reserve b;hold x;free b;log 1;}task e 2 main{enter b;log 2;}task f 3 main{enter b;log 3;}task g 4 main{enter b;log 4;}task m 5 main{go x;}", 6);
        h.run(1);
        due(3, h.bolt(0, 1));
        for (int t = 1; t <= 3; t++) {
            due(1, h.task(t, 0));
        }
        StringBuilder text = new StringBuilder("sema s 0;task m 9 main{give s,s,s,s;}");
        for (int t = 1; t <= 7; t++) {
            text.append("task t").append(t).append(" 1 main{ask s").append(t == 7 ? ",s,s,s" : "").append(";}");
        }
        h = ran(text.toString(), 8);
        due(0, h.sema(0));
        for (int t = 1; t <= 7; t++) {
            due(t <= 4 ? 0 : 3, h.task(t, 0));
        }
        h = ran("sema s 0;task a 1 main{start a;ask s;}task m 5 main{give s,s;log 1;}", 3);
        due(1, h.task(0, 0));
        due(2, h.task(0, 5));
        due(1, h.sema(0));
    }

    @Holds("Terms: (To enter a bolt one can, if nobody reserved it and none that would be SERVED ahead WAITS to reserve it.)")
    private static void whoCanEnter() {
        String x = "bolt b;task x 1 main{reserve b;hold x;free b;log 1;}";
        House h = ran(x + "task e 5 main{enter b;hold e;log 2;}task r 5 main{reserve b;log 3;}task m 9 main{go x;}", 6);
        due(1, h.bolt(0, 1));
        due(NONE, h.bolt(0, 0));
        due(3, h.task(2, 0));
        h = ran(x + "task r 5 main{reserve b;hold r;log 3;}task e 5 main{enter b;hold e;log 2;}task m 9 main{go x;}", 6);
        due(1, h.bolt(0, 0));
        due(0, h.bolt(0, 1));
        due(3, h.task(2, 0));
        h = ran(x + "task r 5 main{reserve b;hold r;log 3;}task e 4 main{enter b;hold e;log 2;}task f 6 main{enter b;log 4;}task m 9 main{go x;}", 7);
        due(NONE, h.bolt(0, 0));
        due(1, h.bolt(0, 1));
        due(1, h.bolt(0, 4));
        due(3, h.task(3, 0));
        h = ran("bolt b;bolt c;task x 1 main{reserve b;reserve c;hold x;free b;log 1;}task r 5 main{reserve c;log 3;}task e 6 main{enter b;hold e;log 2;}task m 9 main{go x;}", 7);
        due(1, h.bolt(0, 1));
    }

    @Holds("Terms: RING: tasks that WAIT for bolts: each for whom has it (reserved, or to reserve it, entered);")
    private static void whomATaskWaitsFor() {
        String two = "bolt b;bolt c;task a 1 main{A b;hold a;C c;log 1;}task d 2 main{B c;go a;D b;log 2;}";
        String[] acts = {"reserve reserve reserve reserve", "reserve reserve enter enter", "enter enter reserve reserve", "enter reserve enter reserve", "reserve enter reserve enter"};
        for (String act : acts) {
            String[] s = act.split(" ");
            House h = ran(two.replace("A b", s[0] + " b").replace("B c", s[1] + " c").replace("C c", s[2] + " c").replace("D b", s[3] + " b"), 9);
            due("first of the ring, " + act, 0, h.ring(0));
            due("second of the ring, " + act, 1, h.ring(1));
            due(NONE, h.ring(2));
        }
        House h = ran("bolt b;bolt c;task a 1 main{enter b;hold a;reserve c;log 1;}task d 2 main{reserve b;}task e 3 main{reserve c;go a;enter b;}", 9);
        due(3, h.task(2, 0));
        due(NONE, h.ring(0));
        h = ran("sema s 0;bolt b;task a 1 main{reserve b;ask s;}task d 2 main{reserve b;}", 9);
        due(NONE, h.ring(0));
        h = ran("sema s 0;sema u 0;task a 1 main{ask s;give u;}task d 2 main{ask u;give s;}", 9);
        due(NONE, h.ring(0));
        for (String wait : new String[] {"ask s;", "ask u;", "ask u,s;", "take n v;", "take m v;"}) {
            h = ran("var v;sema s 0;sema u 0;in n;in m;bolt b;bolt c;bolt d;bolt e;task a 1 main{reserve b;reserve c;reserve d;reserve e;" + wait + "}", 9);
            due(3, h.task(0, 0));
            due("ring(0) of one that has all bolts, " + wait, NONE, h.ring(0));
        }
        h = ran("bolt b;task a 1 main{reserve b;reserve b;}", 1);
        due(NONE, h.ring(0));
    }

    @Holds("Terms: those are told that can come back to themselves so (also one for itself).")
    private static void whoIsInARing() {
        String[] alone = {"reserve b;reserve b;", "reserve b;enter b;", "enter b;reserve b;"};
        for (String s : alone) {
            House h = ran("bolt b;task z 1{}task a 1 main{" + s + "}task d 2 main{reserve b;}", 9);
            due("for itself, " + s, 1, h.ring(0));
            due("one behind, " + s, NONE, h.ring(1));
        }
        House h = ran("bolt b;task a 1 main{enter b;enter b;leave b;enter b;}", 9);
        due(NONE, h.ring(0));
        h = ran("bolt b;bolt c;bolt d;task y 9 main{enter b;}task a 2 main{reserve b;reserve c;}task e 1 main{reserve c;hold e;reserve d;}task f 3 main{reserve d;go e;reserve b;}", 20);
        for (int k = 0; k < 3; k++) {
            due(k + 1, h.ring(k));
        }
        due(NONE, h.ring(3));
        due(3, h.task(0, 0));
        h = ran("bolt b;bolt c;bolt d;bolt e;task p 1 main{reserve b;hold p;reserve c;}task q 2 main{reserve c;go p;reserve b;}task r 3 main{reserve d;hold r;reserve e;}task s 4 main{reserve e;go r;reserve d;}", 20);
        for (int k = 0; k < 4; k++) {
            due(k, h.ring(k));
        }
        h = ran("bolt b;bolt c;task x 1 main{enter b;hold x;log 1;}task a 2 main{enter b;hold a;reserve c;}task d 3 main{reserve c;go a;reserve b;}", 20);
        due(1, h.ring(0));
        due(2, h.ring(1));
        due(NONE, h.ring(2));
        h = ran("bolt b;task a 1 main{enter b;hold a;reserve b;}task c 2 main{enter b;go a;reserve b;}task m 3 main{hold a;hold c;}", 20);
        due(4, h.task(0, 0));
        due(0, h.ring(0));
        due(1, h.ring(1));
        StringBuilder text = new StringBuilder("bolt b;");
        for (int t = 0; t < 8; t++) {
            text.append("task t").append(t).append(" 1 main{enter b;hold t").append(t).append(";reserve b;}");
        }
        String ring = text.toString().replace("hold t7;", "go t0;go t1;go t2;go t3;go t4;go t5;go t6;");
        for (String bolts : new String[] {"", "bolt w;bolt x;bolt y;"}) {
            h = ran(bolts + ring, 60);
            for (int k = 0; k < 8; k++) {
                due(k, h.ring(k));
            }
            due(NONE, h.ring(8));
            due(8, h.bolt(bolts.isEmpty() ? 0 : 3, 1));
        }
    }
}
