import java.lang.reflect.InvocationTargetException;
import java.lang.reflect.Method;

/** What the tests share: feeding texts, comparing answers, running the tests of a class, the exit code. */
abstract class Check {
    static final int NONE = PearlHouse.NONE, BAD = PearlHouse.BAD, STATE = PearlHouse.STATE, FULL = PearlHouse.FULL;
    private static final int MOST_SECONDS = 120;
    private static int wrong = 0;
    private static String sentence = "";

    static void due(String call, long want, long got) {
        if (got != want) {
            wrong++;
            System.out.println(sentence + shortened(call) + " answered " + got + ", due is " + want);
        }
    }

    private static String shortened(String call) {
        int most = 400;
        return call.length() <= most ? call : call.substring(0, most / 2) + " .. " + call.substring(call.length() - most / 2);
    }

    /** The answer of the latest call. */
    static void due(long want, long got) {
        if (got != want) {
            due(House.latest(), want, got);
        }
    }

    static void dueText(String call, String want, String got) {
        if (!got.equals(want)) {
            wrong++;
            System.out.println(sentence + call + " answered " + got + ", due is " + want);
        }
    }

    static void feed(House house, String text) {
        for (int i = 0; i < text.length(); i += 8) {
            String part = text.substring(i, Math.min(i + 8, text.length()));
            house.feed(name(part), part.length());
        }
    }

    /** A new object with this text as its module. */
    static House read(String text) {
        House house = new House();
        feed(house, text);
        int tasks = house.module();
        if (tasks < 0) {
            due("module() of " + text + " at " + house.place(), 0, tasks);
        }
        return house;
    }

    /** A new object with a run of this text. */
    static House begun(String text) {
        House house = read(text);
        house.begin();
        return house;
    }

    /** A new object with a run of this text on some processors. */
    static House begun(String text, int processors) {
        House house = read(text);
        house.processors(processors);
        house.begin();
        return house;
    }

    /** A new object with a run of this text after some grains. */
    static House ran(String text, int grains) {
        House house = begun(text);
        house.run(grains);
        return house;
    }

    /** The text has the fault, and its place is where @ stands (which is no part of it). */
    static void fault(int number, String marked) {
        int at = marked.indexOf('@');
        fault(number, at, marked.substring(0, at) + marked.substring(at + 1));
    }

    static void fault(int number, int at, String text) {
        House house = new House();
        feed(house, text);
        due("module() of " + text, -10 - number, house.module());
        due("place() of " + text, at, house.place());
    }

    /** The text has no fault. */
    static void fits(String text) {
        House house = read(text);
        due("place() of " + text, -1, house.place());
    }

    /** What is logged, from the first number on, and no more. */
    static void logs(String of, House house, int... due) {
        due(of + ": count(3)", due.length, house.count(3));
        for (int i = 0; i < due.length; i++) {
            due(of + ": logged(" + i + ")", due[i], house.logged(i));
        }
    }

    static long name(String name) {
        long packed = 0;
        for (int i = 0; i < name.length(); i++) {
            packed = packed << 8 | name.charAt(i);
        }
        return packed;
    }

    static String times(int n, String part) {
        return part.repeat(n);
    }

    /** Runs each test of a class that says which sentence it holds, and ends. */
    static void all(Class<?> tests) throws IllegalAccessException {
        int many = 0;
        for (Method test : tests.getDeclaredMethods()) {
            Holds holds = test.getAnnotation(Holds.class);
            if (holds != null) {
                sentence = "[" + holds.value() + "] ";
                one(test);
                many++;
            }
        }
        sentence = "";
        System.out.println(many + " tests of sentences");
        finish();
    }

    private static void one(Method test) throws IllegalAccessException {
        test.setAccessible(true);
        try {
            test.invoke(null);
        } catch (InvocationTargetException thrown) {
            wrong++;
            System.out.println(sentence + House.latest() + " threw " + thrown.getCause());
        }
    }

    static void finish() {
        System.out.println(wrong == 0 ? "all answers are as due" : wrong + " answers are not as due");
        if (wrong != 0) {
            System.exit(1);
        }
    }

    /** A call that never ends must fail its test, not halt all tests. */
    static {
        Thread guard = new Thread(() -> {
            try {
                Thread.sleep(1000L * MOST_SECONDS);
            } catch (InterruptedException stopped) {
                return;
            }
            System.out.println(House.latest() + " has no end");
            Runtime.getRuntime().halt(1);
        });
        guard.setDaemon(true);
        guard.start();
    }
}
