import java.io.IOException;
import java.lang.reflect.Constructor;
import java.lang.reflect.Field;
import java.lang.reflect.Method;
import java.lang.reflect.Modifier;
import java.nio.file.Files;
import java.nio.file.Path;
import java.util.Map;
import java.util.TreeMap;
import java.util.regex.Matcher;
import java.util.regex.Pattern;

// The sections 'What it is', 'The public face' and 'Not promised'. Each test says the sentence that it holds.
public final class FaceTest extends Check {
    private static final Path DOCUMENT = Path.of("../shared/DOC.md");
    private static final Pattern METHOD = Pattern.compile("public int (\\w+)\\(([^)]*)\\);");
    private static final Pattern CONSTANT = Pattern.compile("(\\w+) = (-?\\d+)[,;]");
    private static final String EVER = "var v;proc p(){induce 11;}irpt i;in n;task a 1 main{while 1{v=v+1;}}task b 2 main{on any{}while 1{}}task c 3 main{while 1{on 11{}do p();}}task d 4{while 1{take n v;}}";

    public static void main(String[] args) throws IllegalAccessException {
        all(FaceTest.class);
    }

    @Holds("What it is: A house for modules of tasks: texts read and judged; tasks by priorities on processors, started, held and gone on with by schedules; semaphores asked in lists, bolts reserved and entered; stations, interrupts; what the machine refuses induces signals, which go to the nearest reaction or end their task; rings of waits told. 1 TEXTS.")
    private static void oneRunOfAll() {
        House h = new House();
        feed(h, "task a 1 main{log b;}");
        due(-16, h.module());
        due(18, h.place());
        feed(h, "sema s 1;sema u 0;bolt k;bolt l;irpt i;in n;out o;var v;proc half(x){return x/2;}"
            + "task a 1 main{reserve k;ask s,u;reserve l;}"
            + "task b 2 main{enter l;give u;hold b;reserve k;}"
            + "task c 3 main{on 4{put o -1;when i go b;}take n v;v=do half(v);put o v;put o 1/(v-v);}"
            + "task d 4{log time;induce 12;}"
            + "task e 5 main{all 20 until 50 start d;}");
        due(5, h.module());
        due(1, h.processors(2));
        due(4, h.begin());
        due(0, h.run(40));
        due(2, h.task(1, 0));
        due(3, h.task(0, 0));
        due(3, h.task(2, 0));
        due(0, h.waits(3, 1, 0));
        due(NONE, h.ring(0));
        due(0, h.send(0, 9));
        due(0, h.run(40));
        due(2, h.sent(0, NONE));
        due(4, h.sent(0, 0));
        due(-1, h.sent(0, 1));
        due(1, h.trigger(0));
        due(0, h.run(5));
        due(0, h.ring(0));
        due(1, h.ring(1));
        due(NONE, h.ring(2));
        due(2, h.count(3));
        due(2, h.task(3, 6));
        due(12, h.task(3, 7));
        due(3, h.count(4));
        due(1, h.count(5));
        due(4, h.task(2, 7));
    }

    @Holds("What it is: An object is used for at most 512 calls after it has been made;")
    private static void allOfTheCallsAreAnswered() {
        House h = read(EVER);
        due(1, h.processors(3));
        due(3, h.begin());
        for (int grains = 500; grains < 12000; grains += 500) {
            due(1, h.run(500));
            due(grains, h.count(1));
            due(grains / 3, h.count(4));
        }
        due(1, h.run(500));
        while (h.calls() < 511) {
            due(FULL, h.run(500));
        }
        due(4000, h.count(5));
        due("calls", 512, h.calls());
    }

    @Holds("What it is: An object is used for at most 512 calls after it has been made;")
    private static void theLongestRunIsCounted() {
        House h = read("var v;task a 1 main{while 1{v=v+1;}}task b 2 main{while 1{log 1;}}task c 3 main{while 1{}}");
        h.processors(3);
        h.begin();
        int grains = 0;
        while (h.calls() < 509) {
            due(1, h.run(500));
            grains += 500;
        }
        due(grains, h.count(1));
        due(3L * grains, h.count(2));
        due(grains / 2, h.count(3));
    }

    @Holds("What it is: An object is used for at most 512 calls after it has been made;")
    private static void manyModulesAndRuns() {
        House h = new House();
        for (int i = 0; i < 170; i++) {
            due(6, h.feed(name(i % 2 == 0 ? "row a;" : "var b;"), 6));
            due(0, h.module());
            due(0, h.begin());
        }
        due(2, h.run(500));
        due(0, h.find(0, 'b'));
        h = read("row r;task a 1 main{make r 20;hold a;log 1;}");
        while (h.calls() < 510) {
            due(1, h.begin());
            due(0, h.run(500));
            due(20, h.item(0, NONE));
        }
    }

    @Holds("What it is: what later calls answer is free.")
    private static void laterCallsEndToo() {
        PearlHouse house = new PearlHouse();
        for (int i = 0; i < EVER.length(); i++) {
            house.feed(EVER.charAt(i), 1);
        }
        house.module();
        house.begin();
        for (int i = 0; i < 3000; i++) {
            house.run(500);
            house.trigger(i % 3);
            house.send(i % 3, i);
            house.count(i % 12);
            house.feed(i, i % 10);
        }
    }

    @Holds("The public face: public final class PearlHouse {")
    private static void theFaceIsTheDocuments() throws IOException {
        due("the class is public and final", Modifier.PUBLIC | Modifier.FINAL, PearlHouse.class.getModifiers());
        due("the class has no package", 0, PearlHouse.class.getPackageName().length());
        Constructor<?>[] made = PearlHouse.class.getConstructors();
        due("public constructors", 1, made.length);
        due("parameters of the constructor", 0, made[0].getParameterCount());
        if (!Files.exists(DOCUMENT)) {
            return;
        }
        String document = Files.readString(DOCUMENT).replaceAll("(?s).*\n## The public face\n(.*?)\n## .*", "$1");
        dueText("the methods", methodsIn(document).toString(), methodsOfTheClass().toString());
        dueText("the constants", constantsIn(document).toString(), constantsOfTheClass().toString());
    }

    private static Map<String, String> methodsIn(String document) {
        Map<String, String> all = new TreeMap<>();
        Matcher found = METHOD.matcher(document);
        while (found.find()) {
            all.put(found.group(1), found.group(2).replaceAll("(\\w+) \\w+", "$1"));
        }
        return all;
    }

    private static Map<String, String> methodsOfTheClass() {
        Map<String, String> all = new TreeMap<>();
        for (Method m : PearlHouse.class.getDeclaredMethods()) {
            if (Modifier.isPublic(m.getModifiers())) {
                due(m + " is of an object", 0, Modifier.isStatic(m.getModifiers()) ? 1 : 0);
                due(m + " answers an int", 1, m.getReturnType() == int.class ? 1 : 0);
                StringBuilder types = new StringBuilder();
                for (Class<?> type : m.getParameterTypes()) {
                    types.append(types.length() == 0 ? "" : ", ").append(type.getName());
                }
                dueText("methods of this name", "null", "" + all.put(m.getName(), types.toString()));
            }
        }
        return all;
    }

    private static Map<String, Integer> constantsIn(String document) {
        Map<String, Integer> all = new TreeMap<>();
        Matcher found = CONSTANT.matcher(document);
        while (found.find()) {
            all.put(found.group(1), Integer.valueOf(found.group(2)));
        }
        return all;
    }

    private static Map<String, Integer> constantsOfTheClass() {
        Map<String, Integer> all = new TreeMap<>();
        for (Field f : PearlHouse.class.getFields()) {
            due(f + " is constant", Modifier.PUBLIC | Modifier.STATIC | Modifier.FINAL, f.getModifiers());
            all.put(f.getName(), constant(f));
        }
        return all;
    }

    private static int constant(Field f) {
        try {
            return f.getInt(null);
        } catch (IllegalAccessException barred) {
            return 0;
        }
    }

    @Holds("Not promised: How the state is held inside the object is free, as are the speed of each call, the text of toString and the behaviour of equals and hashCode.")
    private static void eachObjectHasItsOwnState() {
        String[] texts = {"var a=1;task t 1 main{while a<90{a=a+1;log a;}}", "var b=5;sema s 2;task u 1 main{while b{b=b-1;ask s;}}task w 2 main{give s;log 1/0;}"};
        House[] beside = {new House(), new House()};
        House[] alone = {begun(texts[0]), begun(texts[1])};
        for (int i = 0; i < 100; i++) {
            for (int k = 0; k < 2; k++) {
                if (i < texts[k].length()) {
                    beside[k].feed(texts[k].charAt(i), 1);
                }
            }
        }
        for (int k = 0; k < 2; k++) {
            beside[k].module();
        }
        due(1, beside[0].begin());
        due(2, beside[1].begin());
        for (int i = 0; i < 20; i++) {
            for (int k = 0; k < 2; k++) {
                due(alone[k].run(3), beside[k].run(3));
                for (int what = 0; what <= 9; what++) {
                    due(alone[k].count(what), beside[k].count(what));
                }
                due(alone[k].value(0), beside[k].value(0));
                due(alone[k].sema(0), beside[k].sema(0));
                due(alone[k].logged(i), beside[k].logged(i));
                due(alone[k].induced(0, 1), beside[k].induced(0, 1));
            }
        }
    }

    @Holds("Not promised: Use of one object from several threads at once is not promised to be safe. Nothing is promised beyond the answers and state changes described above, and nothing about an object after its 512th call.")
    private static void tellingChangesNothing() {
        String text = "sema s 0;bolt k;irpt i;in n;out o;row r;var v;proc p(x){take n v;}task a 1 main{reserve k;make r 3;put o 5;after 30 go a;hold a;ask s;}task b 2 main{enter k;}task c 3 main{log 4;when i start d;do p(1);log v;}task d 4{give s;}";
        House asked = begun(text);
        House left = begun(text);
        for (int i = 0; i < 12; i++) {
            askAll(asked, i);
            due(left.run(3), asked.run(3));
            if (i == 5) {
                due(left.send(0, 8), asked.send(0, 8));
            }
            if (i == 7) {
                due(left.trigger(0), asked.trigger(0));
            }
        }
        for (int t = 0; t < 4; t++) {
            for (int what = 0; what <= 8; what++) {
                due(left.task(t, what), asked.task(t, what));
            }
        }
        for (int what = 0; what <= 9; what++) {
            due(left.count(what), asked.count(what));
        }
        due(left.logged(1), asked.logged(1));
        due(8, asked.value(0));
    }

    private static void askAll(House h, int i) {
        h.place();
        h.declared(i);
        h.find(i, 'a');
        h.task(i % 4, i % 9);
        h.value(0);
        h.item(0, i - 1);
        h.one(0, 0);
        h.sema(0);
        h.bolt(0, i);
        h.irpt(0, i % 4);
        h.sent(0, i - 1);
        h.waits(2 + i % 4, 0, i % 3);
        h.schedule(i % 4, i % 2, i % 5);
        h.ring(i);
        h.logged(i);
        h.induced(i, i % 3);
        h.count(i);
        h.feed(i, 1);
        h.feed(0, 0);
        h.processors(9);
    }
}
