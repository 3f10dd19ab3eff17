import java.lang.reflect.Method;
import java.lang.reflect.Modifier;
import java.nio.file.Files;
import java.nio.file.Path;
import java.util.ArrayList;
import java.util.List;

/** README.md holds: its example is the one here, and each call of the face is named. Runs in the project's root. */
public final class ReadmeTest {
    public static void main(String[] args) throws Exception {
        example();
        List<String> readme = Files.readAllLines(Path.of("README.md"));
        List<String> here = bare(Files.readAllLines(Path.of("src/test/java/ReadmeTest.java")));
        List<String> lines = bare(readme.subList(readme.indexOf("```java") + 1, readme.size()));
        lines = lines.subList(0, lines.indexOf("```"));
        Check.due("lines of the example", lines.size(), 9);
        for (String line : lines) {
            Check.due("'" + line + "' is tested", here.contains(line), true);
        }
        String whole = String.join("\n", readme);
        for (Method m : BallotFruit.class.getDeclaredMethods()) {
            boolean isOpen = Modifier.isPublic(m.getModifiers());
            Check.due(m.getName() + " is named", isOpen && !whole.contains("`" + m.getName() + "`"), false);
        }
        Check.due(".ci/run is named", whole.contains("\n.ci/run\n"), true);
        Check.finish();
    }

    private static void example() {
        BallotFruit x = new BallotFruit();
        int party = x.party(3);
        int eater = x.eater(4);
        x.plant(party, 2, 20);
        x.feed(1700885605, 1914712096, 1652105266, 991961120, 538976288);
        x.end(13);
        int lines = x.text(1);
        int hungry = x.weeks(4);
        int seats = x.of(party, 2);
        Check.due("party", party, 0);
        Check.due("eater", eater, 0);
        Check.due("lines", lines, 1);
        Check.due("hungry", hungry, 0);
        Check.due("seats", seats, 9);
    }

    /** Each line without what is behind // and without blanks around it. */
    private static List<String> bare(List<String> lines) {
        List<String> some = new ArrayList<>();
        for (String line : lines) {
            int end = line.indexOf("//");
            some.add((end < 0 ? line : line.substring(0, end)).trim());
        }
        return some;
    }
}
