import java.io.IOException;
import java.lang.reflect.Method;
import java.nio.file.Files;
import java.nio.file.Path;
import java.util.ArrayDeque;
import java.util.Deque;
import java.util.List;
import java.util.stream.Collectors;
import java.util.stream.Stream;

/** README.md: its example answers as it says, and it names every call of the face and every test. */
public final class ReadmeTest {
    /** The lines of the example that tell an answer, from the first one on. */
    private final Deque<String> told = new ArrayDeque<>();

    private ReadmeTest(List<String> page) {
        for (String line : page) {
            if (line.startsWith("x.")) {
                told.add(line);
            }
        }
    }

    private void next(String call, long answer) {
        String line = told.isEmpty() ? "" : told.remove();
        String[] parts = line.split(";\\s+// ", 2);
        Check.dueText("README.md's next call", parts[0], call);
        Check.dueText("README.md's " + call, parts.length == 2 ? parts[1].split(":")[0] : "", Long.toString(answer));
    }

    private void example() {
        RowVeils x = new RowVeils();
        next("x.row(0, 0, 10, 0)", x.row(0, 0, 10, 0));
        next("x.row(1, 2, 95, 0)", x.row(1, 2, 95, 0));
        next("x.person(2, 3, 0)", x.person(2, 3, 0));
        next("x.veils(2, 1)", x.veils(2, 1));
        next("x.ask(2, RowVeils.NONE, 0, 99)", x.ask(2, RowVeils.NONE, 0, 99));
        next("x.ask(1, RowVeils.NONE, 0, 99)", x.ask(1, RowVeils.NONE, 0, 99));
        for (char c : "0n5!,2w40".toCharArray()) {
            x.append(c);
        }
        next("x.firstError()", x.firstError());
        next("x.rows()", x.rows());
        next("x.ask(2, RowVeils.NONE, 0, 99)", x.ask(2, RowVeils.NONE, 0, 99));
        next("x.set(2, 1)", x.set(2, 1));
        next("x.ask(2, RowVeils.NONE, 6, 99)", x.ask(2, RowVeils.NONE, 6, 99));
        next("x.ifAsked(2, RowVeils.NONE, 6, 99, 2)", x.ifAsked(2, RowVeils.NONE, 6, 99, 2));
        next("x.hides(2)", x.hides(2));
        next("x.undo()", x.undo());
        Check.due("README.md's lines that are not looked at here", told.size(), 0);
        Check.due("questions of person 2 after the example's undo()", x.personOf(2, 6), 2);
    }

    private static void names(String page) throws IOException {
        for (Method method : RowVeils.class.getMethods()) {
            if (method.getDeclaringClass() == RowVeils.class) {
                Check.due("README.md names " + method.getName(), page.contains("`" + method.getName() + "`") ? 1 : 0, 1);
            }
        }
        try (Stream<Path> files = Files.list(Path.of("src/test/java"))) {
            for (Path file : files.collect(Collectors.toList())) {
                String test = file.getFileName().toString().replace(".java", "");
                boolean isTest = test.endsWith("Test");
                Check.due("README.md names " + test, !isTest || page.contains("| " + test + " |") ? 1 : 0, 1);
            }
        }
    }

    public static void main(String[] args) throws IOException {
        Path page = Path.of("README.md");
        new ReadmeTest(Files.readAllLines(page)).example();
        names(Files.readString(page));
        Check.end("ReadmeTest");
    }
}
