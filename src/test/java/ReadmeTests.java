import java.io.IOException;
import java.nio.charset.StandardCharsets;
import java.nio.file.Files;
import java.nio.file.Path;
import java.util.ArrayList;
import java.util.List;

/** The example of README.md: it stands here line by line, so that what README.md tells is what is tested. */
final class ReadmeTests {
    private static final String README = "README.md";
    private static final String HERE = "src/test/java/ReadmeTests.java";

    private ReadmeTests() {
    }

    static void run() {
        Check.test("README.md: the example answers what it tells", ReadmeTests::example);
        Check.test("README.md: the example is the one that is tested", () -> {
            List<String> told = between(README, "```java", "```");
            List<String> tested = between(HERE, "// ---- README.md from here", "// ---- to here");
            Check.isTrue("an example is told", told.size() > 10);
            Check.isTrue("told is " + told + ", tested is " + tested, told.equals(tested));
        });
        Check.test("README.md: each call of the face is told of", () -> {
            String text = String.join("\n", lines(README));
            for (java.lang.reflect.Method method : WaltzHall.class.getMethods()) {
                if (method.getDeclaringClass() == WaltzHall.class) {
                    Check.isTrue("README.md tells of " + method.getName(), text.contains("`" + method.getName() + "("));
                }
            }
        });
    }

    private static void example() {
        // ---- README.md from here
        WaltzHall hall = new WaltzHall();
        int anna = hall.come(5, 5, 0, 2);       // 0, her number: column, row, face (0 is up), cost
        int bert = hall.come(6, 5, 0, 3);       // 1
        int couples = hall.pair(anna, bert);    // 1: anna leads, bert follows

        // The dance 6 becomes ttf: four letters in a number, the first one highest; trim drops the rest.
        int bytes = hall.feed('t' << 24 | 't' << 16 | 'f' << 8, 0, 0, 0, 0);    // 20
        hall.trim(3);
        int figures = hall.learn(6);            // 3; -1 if the tape were no dance
        int before = hall.dance(anna, 6);       // 0, the dance she had

        int winder = hall.addWinder(6, 8, 60);  // 0: column, row, strength
        hall.call(winder, bert);                // bert is the first one of its round

        int row = hall.foresee(bert, 3, 1);     // 6: his row three beats from now on
        int stops = hall.firstToStop(200);      // 0: anna would stop first
        int bumps = hall.pass(3);               // 0: three beats went by without a bump
        int column = hall.dancer(bert, 0);      // 4: he went round her, and down with her
        double tension = hall.tension();        // 92.5, the mean of 94 and 91
        // ---- to here
        int[] got = {anna, bert, couples, bytes, figures, before, winder, row, stops, bumps, column};
        int[] due = {0, 1, 1, 20, 3, 0, 0, 6, 0, 0, 4};
        for (int i = 0; i < due.length; i++) {
            Check.same("the answer " + i + " of the example", got[i], due[i]);
        }
        Check.same("tension()", tension, 92.5);
        Check.same("the row of bert", hall.dancer(bert, 1), row);
    }

    /** The lines behind the first one that is the opening, up to the closing, without the blanks around them. */
    private static List<String> between(String file, String opening, String closing) {
        List<String> found = new ArrayList<>();
        boolean inside = false;
        for (String line : lines(file)) {
            String bare = line.trim();
            if (inside && bare.equals(closing)) {
                return found;
            }
            if (inside) {
                found.add(bare);
            }
            inside = inside || bare.equals(opening);
        }
        return found;
    }

    private static List<String> lines(String file) {
        try {
            return Files.readAllLines(Path.of(file), StandardCharsets.UTF_8);
        } catch (IOException e) {
            throw new IllegalStateException("run the tests in the project's directory: " + e);
        }
    }
}
