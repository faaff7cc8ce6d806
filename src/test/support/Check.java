// What the tests share: feeding texts, comparing answers, the exit code.
final class Check {
    private static int wrong = 0;

    private Check() {
    }

    static void due(String call, long want, long got) {
        if (got != want) {
            wrong++;
            System.out.println(call + " answered " + got + ", due is " + want);
        }
    }

    static void feed(PearlHouse house, String text) {
        for (int i = 0; i < text.length(); i += 8) {
            String part = text.substring(i, Math.min(i + 8, text.length()));
            house.feed(name(part), part.length());
        }
    }

    /** A new object with this text as its module. */
    static PearlHouse read(String text) {
        PearlHouse house = new PearlHouse();
        feed(house, text);
        int tasks = house.module();
        if (tasks < 0) {
            due("module() of " + text + " at " + house.place(), 0, tasks);
        }
        return house;
    }

    /** A new object with a run of this text. */
    static PearlHouse begun(String text) {
        PearlHouse house = read(text);
        house.begin();
        return house;
    }

    /** A new object with a run of this text after some grains. */
    static PearlHouse ran(String text, int grains) {
        PearlHouse house = begun(text);
        house.run(grains);
        return house;
    }

    /** The text has the fault, and its place is where @ stands (which is no part of it). */
    static void fault(int number, String marked) {
        int at = marked.indexOf('@');
        String text = marked.substring(0, at) + marked.substring(at + 1);
        PearlHouse house = new PearlHouse();
        feed(house, text);
        due("module() of " + marked, -10 - number, house.module());
        due("place() of " + marked, at, house.place());
    }

    /** The text has no fault. */
    static void fits(String text) {
        PearlHouse house = read(text);
        due("place() of " + text, -1, house.place());
    }

    /** What is logged, from the first number on, and no more. */
    static void logs(String of, PearlHouse house, int... due) {
        due(of + ": count(3)", due.length, house.count(3));
        for (int i = 0; i < due.length; i++) {
            due(of + ": logged(" + i + ")", due[i], house.logged(i));
        }
    }

    static long name(String name) {
        long packed = 0;
        for (int i = 0; i < name.length(); i++) {
            packed = packed << 8 | name.charAt(i);
        }
        return packed;
    }

    static String times(int n, String part) {
        return part.repeat(n);
    }

    static void finish() {
        System.out.println(wrong == 0 ? "all answers are as due" : wrong + " answers are not as due");
        if (wrong != 0) {
            System.exit(1);
        }
    }
}
