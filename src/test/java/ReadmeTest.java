import java.io.IOException;
import java.lang.reflect.Method;
import java.lang.reflect.Modifier;
import java.nio.file.DirectoryStream;
import java.nio.file.Files;
import java.nio.file.Path;
import java.util.List;

/** README.md's examples answer as it says, and it names each call and each test; runs in the project's folder. */
public final class ReadmeTest {
    private static final Path TESTS = Path.of("src/test/java");

    public static void main(String[] args) throws IOException {
        List<String> readme = Files.readAllLines(Path.of("README.md"));
        examples();
        examplesAreThoseOf(readme);
        namesOfCalls(String.join("\n", readme));
        namesOfTests(String.join("\n", readme));
        Check.end("ReadmeTest");
    }

    /** The lines of the page itself, and behind them what its comments say. */
    private static void examples() {
        Tableauhall hall = new Tableauhall();
        int shape = hall.shape(321);
        long many = hall.tableaux(shape);
        int ones = hall.shape(111111);
        int sign = hall.character(ones, shape);
        int word = hall.word();
        hall.append(word, 2);
        hall.append(word, 1);
        int below = hall.inserted(word, 1, 0);
        boolean highest = hall.isHighest(word);
        boolean gone = hall.down(word, 2);
        Check.same("tableaux", many, 16L);
        Check.same("character", sign, -1);
        Check.same("inserted", below, 2);
        Check.same("isHighest", highest, true);
        Check.same("down", gone, true);
        Check.same("the first letter behind it", hall.letterAt(word, 0), 3);
        Check.same("the second letter behind it", hall.letterAt(word, 1), 1);
        int refused = 0;
        try {
            hall.shape(12);
        } catch (IllegalArgumentException wrong) {
            refused++;
        }
        int next = hall.shape(21);
        Check.same("refused", refused, 1);
        Check.same("the next shape", next, 2);
    }

    /** Each line of Java on the page stands in this file too, so that it has been run. */
    private static void examplesAreThoseOf(List<String> readme) throws IOException {
        List<String> run = Files.readAllLines(TESTS.resolve("ReadmeTest.java"));
        run.replaceAll(String::trim);
        boolean inJava = false;
        int lines = 0;
        for (String line : readme) {
            if (line.startsWith("```")) {
                inJava = line.equals("```java");
            } else if (inJava) {
                lines++;
                Check.same("is run: " + line, run.contains(line.replaceAll("//.*", "").trim()), true);
            }
        }
        Check.same("lines of examples", lines > 0, true);
    }

    private static void namesOfCalls(String readme) {
        for (Method method : Tableauhall.class.getDeclaredMethods()) {
            if (Modifier.isPublic(method.getModifiers())) {
                String name = method.getName();
                Check.same("names " + name, readme.contains("`" + name + "("), true);
            }
        }
    }

    private static void namesOfTests(String readme) throws IOException {
        try (DirectoryStream<Path> tests = Files.newDirectoryStream(TESTS, "*Test.java")) {
            for (Path test : tests) {
                String name = test.getFileName().toString().replace(".java", "");
                Check.same("names " + name, readme.contains("`" + name + "`"), true);
            }
        }
    }
}
