import java.io.IOException;
import java.lang.reflect.Method;
import java.lang.reflect.Modifier;
import java.nio.file.Files;
import java.nio.file.Path;
import java.util.ArrayList;
import java.util.List;

// The example in README.md answers what stands behind its lines, and the README names every call.
public final class ReadmeTest {
    private static int wrong = 0;
    private static final List<String> LINES = new ArrayList<>();
    private static int at = 0;

    private static void fail(String what) {
        wrong++;
        System.out.println("not so: " + what);
    }

    // The next line of the example is this call, and says this answer.
    private static void line(String call, Object answer) {
        String line = at < LINES.size() ? LINES.get(at) : "(no more)";
        at++;
        if (!line.matches("\\Q" + call + "\\E +// \\Q" + answer + "\\E\\b.*")) {
            fail("README: " + line + ", answered by " + call + ": " + answer);
        }
    }

    private static void example() {
        BallotHouse house = new BallotHouse(3);
        line("BallotHouse house = new BallotHouse(3);", "three voters");
        int first = house.ballot(0b111, 2, 2);
        line("int first = house.ballot(0b111, 2, 2);", first);
        line("house.settle(100);", house.settle(100));
        line("house.of(first, 0);", house.of(first, 0));
        line("house.propose(first, 0, 42L);", house.propose(first, 0, 42L));
        line("house.air(0, 0);", house.air(0, 0));
        line("house.settle(100);", house.settle(100));
        line("house.chosen(0);", house.chosen(0));
        line("house.chosenValue(0);", house.chosenValue(0));
        line("house.silent(0, true);", house.silent(0, true));
        int next = house.ballot(0b110, 1, 2);
        line("int next = house.ballot(0b110, 1, 2);", next);
        line("house.settle(100);", house.settle(100));
        line("house.about(3);", house.about(3));
        line("house.about(2);", house.about(2));
        line("house.said(next, 0);", house.said(next, 0));
        line("house.propose(next, 0, 43L);", house.propose(next, 0, 43L));
        line("house.propose(next, 9, 43L);", house.propose(next, 9, 43L));
        line("house.vote(1, 0);", house.vote(1, 0));
        if (at != LINES.size()) {
            fail("README has " + LINES.size() + " lines of an example, not " + at);
        }
    }

    private static void namesEveryCall(String text) {
        for (Method m : BallotHouse.class.getDeclaredMethods()) {
            if (Modifier.isPublic(m.getModifiers()) && !text.contains("`" + m.getName() + "(")) {
                fail("README names " + m.getName());
            }
        }
    }

    public static void main(String[] args) throws IOException {
        String text = Files.readString(Path.of("README.md"));
        int from = text.indexOf("```java\n");
        int to = text.indexOf("```\n", from + 8);
        if (from < 0 || to < 0) {
            fail("README has an example");
        } else {
            for (String line : text.substring(from + 8, to).split("\n")) {
                if (!line.isBlank()) {
                    LINES.add(line);
                }
            }
            example();
        }
        namesEveryCall(text);
        System.out.println(wrong == 0 ? "the README says what is so" : wrong + " things are not so");
        if (wrong != 0) {
            System.exit(1);
        }
    }
}
