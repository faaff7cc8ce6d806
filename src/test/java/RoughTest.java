import java.util.Random;

// Texts of tokens at random, and calls with arguments at random: no call may throw, refusals change nothing, and an
// object that has read and run other texts answers like a new one.
public final class RoughTest {
    private static final String[] PARTS = {"var", "row", "sema", "bolt", "irpt", "in", "out", "proc", "task", "main", "on", "any", "do", "return",
        "if", "else", "while", "make", "same", "lose", "ask", "give", "reserve", "free", "enter", "leave", "start", "go", "end", "hold",
        "prior", "prevent", "induce", "take", "put", "pull", "enable", "disable", "log", "at", "after", "all", "until", "when", "size",
        "time", "state", "(", ")", "{", "}", "[", "]", ",", ";", "=", "<", ">", "+", "-", "*", "/", "%", "a", "b", "c", "x9", "0", "1", "5", "999999999"};
    private static final String HEAD = "var a=2;var b;row r;row q;sema s 1;sema u 0;bolt l;bolt m;irpt i;irpt j;in n;out o;"
        + "proc p(x,y){on 7{return y;}if x>3{return x*y;}a=do p(x+1,y);}proc e(){}";
    private static final String[] STATEMENTS = {"a=a*7-b;", "b=a%5;", "a=do p(a,b);", "do e();", "do p(0,1);", "make r b;", "r[b]=a;", "log r[a]+size q;",
        "same q r;", "lose r;", "ask s;", "ask s,u,s;", "give s;", "give u,u;", "reserve l;", "free l;", "enter l;", "leave l;", "reserve m;",
        "free m;", "enter m;", "leave m;", "start t0;", "start t1;", "go t1;", "hold t1;", "hold t2;", "go t2;", "end t2;", "end;", "prior t1 b;",
        "prevent t2;", "induce 12;", "take n a;", "put o a;", "pull i;", "enable i;", "disable i;", "pull j;", "log a/b;", "at time+3 start t1;",
        "after 2 go t1;", "after 4 go t2;", "all 3 start t2;", "all 5 until time+40 go t2;", "when i start t0;", "when j go t1;", "when i go t2;",
        "if a>b{log 1;}else{b=b+1;}", "while b<4{b=b+1;}", "if 1{on any{log 9;}log 1/0;}", "end t1;"};
    private static final String[] MORE = {"var c=5;", "var d=-7;", "row w;", "sema f 2;", "sema g 9;", "bolt k;", "irpt h;", "in z;", "out v;",
        "proc c1(x){return x;}", "task t8 4 main{log 7;}", "task t9 1{}"};
    private static final String[] TOLD = {"var @=-5;", "row @;", "sema @ 7;", "bolt @;", "irpt @;", "in @;", "out @;", "proc @(x,y){return x;}",
        "task @ 4 main{log 7;}"};
    private static final int[] EDGES = {Integer.MIN_VALUE, -2000000000, -3, -2, -1, 0, 1, 2, 3, 4, 5, 7, 8, 9, 10, 19, 20, 21, 39, 40, 99, 100, 199, 200,
        500, 501, 1000000000, Integer.MAX_VALUE};

    private final Random random = new Random(20261116);

    public static void main(String[] args) {
        RoughTest test = new RoughTest();
        for (int i = 0; i < 3000; i++) {
            test.oneObject(i % 2 == 0 ? test.anyText() : test.goodText());
        }
        for (int i = 0; i < 1500; i++) {
            test.usedAndNew();
        }
        Check.finish();
    }

    private String anyText() {
        StringBuilder text = new StringBuilder();
        int parts = random.nextInt(60);
        for (int i = 0; i < parts; i++) {
            text.append(PARTS[random.nextInt(PARTS.length)]).append(random.nextInt(4) == 0 ? "\n" : " ");
        }
        if (random.nextInt(8) == 0) {
            text.append((char) random.nextInt(256));
        }
        return text.toString();
    }

    private String goodText() {
        StringBuilder text = new StringBuilder(HEAD);
        for (int t = 0; t < 3; t++) {
            text.append("task t").append(t).append(' ').append(1 + random.nextInt(3)).append(" main{while 1{on any{}");
            int parts = 1 + random.nextInt(14);
            for (int i = 0; i < parts; i++) {
                text.append(STATEMENTS[random.nextInt(STATEMENTS.length)]);
            }
            text.append("}}");
        }
        return text.toString();
    }

    /** A text that tells some of this and that and breaks off in the last of it. */
    private String brokenText() {
        StringBuilder text = new StringBuilder();
        int sort = random.nextInt(TOLD.length);
        for (int i = random.nextInt(6); i >= 0; i--) {
            text.append(TOLD[sort].replace('@', (char) ('a' + i)));
            sort = random.nextInt(3) == 0 ? random.nextInt(TOLD.length) : sort;
        }
        return text.substring(0, text.length() - 1 - random.nextInt(4));
    }

    /** A good text, with more or less of each sort told ahead of it or behind it. */
    private String otherText() {
        StringBuilder text = new StringBuilder();
        for (String more : MORE) {
            text.append(random.nextBoolean() ? more : "");
        }
        return random.nextBoolean() ? text + goodText() : goodText() + text;
    }

    /** One object has read other texts, most of them with a fault, and run some; it must answer as a new one does. */
    private void usedAndNew() {
        House used = new House();
        for (int i = random.nextInt(4); i >= 0; i--) {
            Check.feed(used, i == 0 && random.nextInt(3) == 0 ? otherText() : brokenText());
            used.module();
            used.begin();
            used.run(1 + random.nextInt(60));
        }
        String text = otherText();
        House fresh = new House();
        for (House h : new House[] {used, fresh}) {
            Check.feed(h, text);
        }
        Check.due("module() of " + text, fresh.module(), used.module());
        if (random.nextBoolean()) {
            used.begin();
            used.send(0, 5);
            used.run(1 + random.nextInt(60));
        }
        Check.due("begin() of " + text, fresh.begin(), used.begin());
        for (int i = random.nextInt(8); i >= 0; i--) {
            if (random.nextInt(6) == 0) {
                Check.feed(used, brokenText());
                Check.due("a fault of module() while " + text + " runs", 1, used.module() < -10 ? 1 : 0);
            }
            int grains = 1 + random.nextInt(9);
            int v = random.nextInt(9);
            Check.due("run(" + grains + ")", fresh.run(grains), used.run(grains));
            Check.due("send(0, " + v + ")", fresh.send(0, v), used.send(0, v));
            Check.due("trigger(1)", fresh.trigger(1), used.trigger(1));
        }
        String due = tellAll(fresh);
        String got = tellAll(used);
        Check.due("a used object tells" + got + ", a new one" + due + ", of " + text, 1, due.equals(got) ? 1 : 0);
    }

    private static String tellAll(House h) {
        StringBuilder all = new StringBuilder();
        for (int i = 0; i <= 10; i++) {
            tell(all, h.declared(i), h.count(i), h.logged(i));
        }
        for (int i = 0; i <= 4; i++) {
            for (int what = 0; what <= 8; what++) {
                tell(all, h.task(i, what));
            }
            tell(all, h.schedule(i, 0, 0), h.schedule(i, 1, 0), h.value(i), h.sema(i), h.ring(i));
        }
        for (int i = 0; i <= 2; i++) {
            for (int what = 0; what <= 2; what++) {
                tell(all, h.bolt(i, what), h.irpt(i, what), h.induced(i, what), h.item(i, what - 1));
            }
            tell(all, h.waits(2, i, 0), h.waits(3, i, 0), h.waits(5, i, 0), h.sent(i, -1));
        }
        return all.toString();
    }

    private static void tell(StringBuilder all, int... answers) {
        for (int answer : answers) {
            all.append(' ').append(answer);
        }
    }

    private int edge() {
        return random.nextInt(3) == 0 ? random.nextInt(12) - 2 : EDGES[random.nextInt(EDGES.length)];
    }

    private void oneObject(String text) {
        House h = new House();
        Check.feed(h, text);
        int tasks = h.module();
        int place = h.place();
        if (tasks < 0) {
            Check.due("module() of " + text + ": a fault 1 to 7", 1, tasks <= -11 && tasks >= -17 ? 1 : 0);
            Check.due("place() of " + text + " in the text", 1, place >= 0 && place <= text.length() ? 1 : 0);
            Check.due("feed() behind the fault", 1, h.feed('&', 1));
            Check.feed(h, text);
            Check.due("module() of & and " + text, -11, h.module());
            Check.feed(h, text);
            Check.due("module() again", tasks, h.module());
        } else {
            Check.due("place() of " + text, -1, place);
        }
        h.processors(1 + random.nextInt(3));
        h.begin();
        for (int i = 0; i < 100; i++) {
            anyCall(h);
        }
        int grains = h.count(1);
        int time = h.count(0);
        Check.due("TIME is never below GRAINS", 1, time >= grains ? 1 : 0);
        Check.due("procs over are not above procs begun", 1, h.count(9) <= h.count(8) ? 1 : 0);
        Check.due("reactions are not above signals", 1, h.count(5) <= h.count(4) ? 1 : 0);
    }

    private void anyCall(House h) {
        int a = edge();
        int b = edge();
        int c = edge();
        switch (random.nextInt(26)) {
            case 0: h.trigger(a); break;
            case 1: h.send(a, b); break;
            case 2: h.task(a, b); break;
            case 3: h.value(a); break;
            case 4: h.item(a, b); break;
            case 5: h.one(a, b); break;
            case 6: h.sema(a); break;
            case 7: h.bolt(a, b); break;
            case 8: h.irpt(a, b); break;
            case 9: h.sent(a, b); break;
            case 10: h.waits(a, b, c); break;
            case 11: h.schedule(a, b, c); break;
            case 12: h.ring(a); break;
            case 13: h.logged(a); break;
            case 14: h.induced(a, b); break;
            case 15: h.count(a); break;
            case 16: h.find(a, b); break;
            case 17: h.declared(a); break;
            case 18: h.processors(a); break;
            case 19: h.feed(random.nextLong(), a); break;
            case 20: if (random.nextInt(20) == 0) { h.module(); } break;
            case 21: if (random.nextInt(9) == 0) { h.begin(); } break;
            default: h.run(a); break;
        }
    }
}
