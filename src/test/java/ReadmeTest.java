import java.io.IOException;
import java.nio.file.DirectoryStream;
import java.nio.file.Files;
import java.nio.file.Path;
import java.util.regex.Matcher;
import java.util.regex.Pattern;

// README.md tells all calls of the class and all tests of the project, and its example answers as it says.
public final class ReadmeTest extends Check {
    private static final Pattern FACE = Pattern.compile("(?m)^    public int (\\w+\\([^)]*\\))");
    private static final Pattern EXAMPLE = Pattern.compile("(?s)```java\n(.*?)```");

    public static void main(String[] args) throws IOException {
        String readme = Files.readString(Path.of("README.md"));
        example();
        exampleIsTheOneToldThere(readme);
        callsAreTold(readme);
        testsAreTold(readme);
        finish();
    }

    private static void example() {
        // README
        PearlHouse house = new PearlHouse();
        String text = "var a = 3; sema s 0; in n; out o;"
            + "task t 2 main { take n a; put o a * 2; give s; }"
            + "task u 1 main { ask s; log a; log 1 / 0; }";
        for (int i = 0; i < text.length(); i++) {
            house.feed(text.charAt(i), 1);          // up to 8 bytes a call, the highest first
        }
        int tasks = house.module();                 // 2; below -10: a fault, and place() tells where
        int before = house.processors(2);           // 1: so many there were; 2 of the runs that begin now
        int ready = house.begin();                  // 2 tasks are ready
        int still = house.run(10);                  // 0: t waits for the in, u for the sema, nothing goes on
        int waiting = house.waits(5, 0, 0);         // 0: task 0 is the first that waits for in 0
        int left = house.send(0, 21);               // 0: task 0 has taken the number at once
        int ended = house.run(10);                  // 2: the run has ended
        int doubled = house.sent(0, 0);             // 42
        int logged = house.logged(0);               // 21
        int signal = house.induced(0, 1);           // 4: task u divided by 0, had no reaction, and ended
        // README
        int[] answers = {tasks, before, ready, still, waiting, left, ended, doubled, logged, signal};
        int[] due = {2, 1, 2, 0, 0, 0, 2, 42, 21, 4};
        for (int i = 0; i < due.length; i++) {
            due("answer " + i + " of the example", due[i], answers[i]);
        }
    }

    private static void exampleIsTheOneToldThere(String readme) throws IOException {
        String[] parts = Files.readString(Path.of("src/test/java/ReadmeTest.java")).split(" {8}// README\n");
        Matcher told = EXAMPLE.matcher(readme);
        dueText("the example of README.md", parts[1].replaceAll("(?m)^ {8}", ""), told.find() ? told.group(1) : "none");
    }

    private static void callsAreTold(String readme) throws IOException {
        Matcher call = FACE.matcher(Files.readString(Path.of("src/main/java/PearlHouse.java")));
        int calls = 0;
        while (call.find()) {
            calls++;
            due("rows of README.md for " + call.group(1), 1, readme.split(Pattern.quote("| `" + call.group(1) + "` |"), -1).length - 1);
        }
        due("calls of the class", 24, calls);
    }

    private static void testsAreTold(String readme) throws IOException {
        try (DirectoryStream<Path> tests = Files.newDirectoryStream(Path.of("src/test/java"), "*.java")) {
            for (Path test : tests) {
                String name = test.getFileName().toString().replace(".java", "");
                due("README.md tells " + name, 1, readme.contains("`" + name + "`") ? 1 : 0);
            }
        }
    }
}
