import java.util.Arrays;

/**
 * An object of PearlHouse as the tests use it: each call is counted, as nothing is promised behind the 512th, and the
 * latest one is kept to be told where its answer is not as due.
 */
final class House {
    private static final int MOST_CALLS = 512;
    private static String latestName = "";
    private static long[] latestArguments = {};

    private final PearlHouse house = new PearlHouse();
    private int calls = 0;

    static String latest() {
        return latestName + Arrays.toString(latestArguments).replace('[', '(').replace(']', ')');
    }

    int calls() {
        return calls;
    }

    private void note(String name, long... arguments) {
        latestName = name;
        latestArguments = arguments;
        calls++;
        if (calls == MOST_CALLS + 1) {
            Check.due("calls of one object", MOST_CALLS, calls);
        }
    }

    int feed(long w, int n) {
        note("feed", w, n);
        return house.feed(w, n);
    }

    int module() {
        note("module");
        return house.module();
    }

    int place() {
        note("place");
        return house.place();
    }

    int declared(int sort) {
        note("declared", sort);
        return house.declared(sort);
    }

    int find(int sort, long name) {
        note("find", sort, name);
        return house.find(sort, name);
    }

    int processors(int n) {
        note("processors", n);
        return house.processors(n);
    }

    int begin() {
        note("begin");
        return house.begin();
    }

    int run(int n) {
        note("run", n);
        return house.run(n);
    }

    int trigger(int irpt) {
        note("trigger", irpt);
        return house.trigger(irpt);
    }

    int send(int in, int v) {
        note("send", in, v);
        return house.send(in, v);
    }

    int task(int t, int what) {
        note("task", t, what);
        return house.task(t, what);
    }

    int value(int v) {
        note("value", v);
        return house.value(v);
    }

    int item(int row, int i) {
        note("item", row, i);
        return house.item(row, i);
    }

    int one(int a, int b) {
        note("one", a, b);
        return house.one(a, b);
    }

    int sema(int s) {
        note("sema", s);
        return house.sema(s);
    }

    int bolt(int b, int what) {
        note("bolt", b, what);
        return house.bolt(b, what);
    }

    int irpt(int i, int what) {
        note("irpt", i, what);
        return house.irpt(i, what);
    }

    int sent(int out, int i) {
        note("sent", out, i);
        return house.sent(out, i);
    }

    int waits(int sort, int number, int k) {
        note("waits", sort, number, k);
        return house.waits(sort, number, k);
    }

    int schedule(int t, int goes, int what) {
        note("schedule", t, goes, what);
        return house.schedule(t, goes, what);
    }

    int ring(int k) {
        note("ring", k);
        return house.ring(k);
    }

    int logged(int i) {
        note("logged", i);
        return house.logged(i);
    }

    int induced(int i, int what) {
        note("induced", i, what);
        return house.induced(i, what);
    }

    int count(int what) {
        note("count", what);
        return house.count(what);
    }
}
