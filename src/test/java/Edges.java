import java.io.IOException;
import java.nio.file.Files;
import java.nio.file.Path;
import java.util.ArrayList;
import java.util.LinkedHashMap;
import java.util.List;
import java.util.Map;
import java.util.function.Supplier;

/**
 * Keeps account of which sentence of ../shared/DOC.md has a test: each test says its sentence (by its beginning), and a
 * sentence that has neither a test, nor a word that it names no boundary case, is an error at the end.
 */
final class Edges {
    static final int NONE = RowVeils.NONE;
    static final Class<? extends RuntimeException> INDEX = IndexOutOfBoundsException.class;
    static final Class<? extends RuntimeException> ARGUMENT = IllegalArgumentException.class;
    static final Class<? extends RuntimeException> STATE = IllegalStateException.class;

    interface On {
        long call(RowVeils x);
    }

    interface With {
        long call(RowVeils x, int number);
    }

    private final Map<String, List<String>> sentences = new LinkedHashMap<>();
    private final Map<String, List<String>> untold = new LinkedHashMap<>();
    private String heading = "";

    /** The face is FaceTest's; what is not promised has no test. */
    Edges(Path document) throws IOException {
        for (String line : Files.readAllLines(document)) {
            if (line.startsWith("#")) {
                heading = line.replaceFirst("^#+ ", "");
                sentences.put(heading, new ArrayList<>());
                untold.put(heading, new ArrayList<>());
            } else if (!line.isBlank() && !heading.equals("The public face") && !heading.equals("Not promised")) {
                for (String sentence : line.split("(?<=[.)])\\s+(?=[A-Z(])")) {
                    sentences.get(heading).add(sentence);
                    untold.get(heading).add(sentence);
                }
            }
        }
    }

    void under(String nextHeading) {
        heading = nextHeading;
        if (!sentences.containsKey(heading)) {
            Check.fail("no such heading in the document: " + heading);
        }
    }

    private void tell(String beginning) {
        List<String> found = new ArrayList<>(sentences.getOrDefault(heading, List.of()));
        found.removeIf(sentence -> !sentence.startsWith(beginning));
        Check.due("sentences under " + heading + " that begin with: " + beginning, found.size(), 1);
        if (found.size() == 1 && !untold.get(heading).remove(found.get(0))) {
            Check.fail("told twice under " + heading + ": " + beginning);
        }
    }

    void test(String beginning, Runnable test) {
        tell(beginning);
        int looked = Check.looked();
        int wrong = Check.wrong();
        try {
            test.run();
        } catch (RuntimeException e) {
            Check.fail("the test ended with " + e + " at " + e.getStackTrace()[0]);
        }
        if (Check.looked() == looked) {
            Check.fail("the test looked at no answer");
        }
        if (Check.wrong() > wrong) {
            System.out.println("  .. in the test of: [" + heading + "] " + beginning);
        }
    }

    /** A sentence without a boundary case; what it says is tested elsewhere. */
    void plain(String beginning) {
        tell(beginning);
    }

    void noneLeft() {
        for (String of : untold.keySet()) {
            for (String sentence : untold.get(of)) {
                Check.fail("no test for the sentence: [" + of + "] " + sentence);
            }
        }
    }

    // ---- objects to begin with

    /** Sixteen rows of owner 0, all seen by all, with the values 0 to 15. */
    static RowVeils sixteen() {
        RowVeils x = new RowVeils();
        for (int i = 0; i < 16; i++) {
            x.row(0, i % 4, i, 0);
        }
        return x;
    }

    /** Nothing is as at first, some characters are in the buffer, and six states are saved. */
    static RowVeils busy() {
        RowVeils x = new RowVeils();
        Check.add(x, "0n10,1e20!,2s30!!,3w95!!!,0n40,0n50,4e0");
        x.person(1, 2, 1);
        x.person(3, 3, 3);
        x.master(0, 1);
        x.master(1, 2);
        x.force(1, false);
        x.set(0, 2);
        x.set(1, 2);
        x.ask(0, NONE, 0, 99);
        x.ask(0, 0, 0, 45);
        x.ask(1, NONE, 0, 99);
        x.ask(1, NONE, 10, 99);
        x.askSum(2, NONE, 0, 99);
        x.ask(4, 2, 0, 5);
        x.set(2, 1);
        x.ask(0, 0, 0, 99);
        x.change(4, 41);
        x.ask(1, NONE, 20, 99);
        Check.type(x, "1e5!,2");
        return x;
    }

    static RowVeils busyWithSaved(int saved) {
        RowVeils x = busy();
        for (int i = 6; i > saved; i--) {
            x.undo();
        }
        return x;
    }

    static RowVeils busyAndFull() {
        RowVeils x = busy();
        for (int i = x.count(0); i < 16; i++) {
            x.row(i % 5, i % 4, 5 * i, i % 3);
        }
        x.clearBuffer();
        for (int i = 0; i < 60; i++) {
            x.append("0n5!,".charAt(i % 5));
        }
        return x;
    }

    // ---- what an object tells

    private static long mix(long hash, long value) {
        return (hash ^ value) * 0x100000001B3L + (hash >>> 29);
    }

    /** All looks but those at the buffer and at how many states are saved, as one number. */
    static long looks(RowVeils x) {
        long hash = 1;
        int rows = x.count(0);
        for (int what = 0; what < 9; what++) {
            hash = mix(hash, x.count(what));
        }
        for (int row = 0; row < rows; row++) {
            for (int what = 0; what < 5; what++) {
                hash = mix(hash, x.rowOf(row, what));
            }
        }
        for (int person = 0; person < 5; person++) {
            hash = mix(hash, looksOf(x, person, rows));
        }
        for (int rule = 0; rule < 4; rule++) {
            hash = mix(hash, x.hides(rule));
        }
        return mix(mix(hash, x.blindest()), Double.doubleToLongBits(x.openness()));
    }

    private static long looksOf(RowVeils x, int person, int rows) {
        long hash = 1;
        for (int what = 0; what < 8; what++) {
            hash = mix(hash, x.personOf(person, what));
        }
        for (int row = 0; row < rows; row++) {
            hash = mix(hash, x.veils(person, row));
        }
        for (int place = 0; place < 7; place++) {
            hash = mix(hash, x.remembered(person, place));
        }
        for (int place = NONE; place < 4; place++) {
            hash = mix(hash, x.needed(person, place));
            for (int what = 0; what < 4; what++) {
                hash = mix(hash, x.ifAsked(person, place, 0, 99, what));
                hash = mix(hash, x.ifAsked(person, place, 10, 40, what));
            }
        }
        return hash;
    }

    /** What an object tells now, and after each of so many undos; it is undone then. */
    static long story(RowVeils x, int undos) {
        long hash = looks(x);
        for (int i = 0; i < undos && x.count(9) > 0; i++) {
            x.undo();
            hash = mix(hash, looks(x));
        }
        return hash;
    }

    // ---- what many sentences ask for

    /** The call throws just this, and the buffer, the state and all saved ones are as those of one without the call. */
    static void refused(Class<? extends RuntimeException> kind, String name, Supplier<RowVeils> make, On call) {
        RowVeils x = make.get();
        RowVeils y = make.get();
        Check.dueText(name, Check.outcome(() -> call.call(x)), kind.getSimpleName());
        Check.due(name + ", then digest()", x.digest(), y.digest());
        Check.due(name + ", then all looks and undos", story(x, 6), story(y, 6));
    }

    static void taken(String name, Supplier<RowVeils> make, On call) {
        RowVeils x = make.get();
        String outcome = Check.outcome(() -> call.call(x));
        Check.due(name + " answered " + outcome + ": thrown", outcome.endsWith("Exception") ? 1 : 0, 0);
    }

    /** Each number from least to greatest is taken; those beyond, near and far, throw, and change nothing. */
    static void range(String name, int least, int greatest, Class<? extends RuntimeException> kind,
            Supplier<RowVeils> make, With call) {
        for (int n = least; n <= greatest; n++) {
            int number = n;
            taken(name + " " + n, make, x -> call.call(x, number));
        }
        int[] beyond = {least - 1, least - 2, greatest + 1, greatest + 2, -(greatest + 1), least + 32, least + 64,
            least + 256, greatest - 256, least + 65536, greatest - 65536, least + Integer.MIN_VALUE + 1,
            Integer.MIN_VALUE, Integer.MAX_VALUE};
        for (int number : beyond) {
            if (number < least || number > greatest) {
                refused(kind, name + " " + number, make, x -> call.call(x, number));
            }
        }
    }

    static void range(String name, int least, int greatest, Class<? extends RuntimeException> kind, With call) {
        range(name, least, greatest, kind, Edges::busy, call);
    }

    /** The call saves one state, the one before it; of six the oldest one goes. */
    static void undoable(String name, On call) {
        for (int saved = 0; saved <= 6; saved++) {
            RowVeils x = busyWithSaved(saved);
            RowVeils y = busyWithSaved(saved);
            int then = Math.min(saved + 1, 6);
            String of = name + ", behind " + saved + " saved states";
            call.call(x);
            Check.due(of + ": count(9)", x.count(9), then);
            Check.due(of + ": undo()", x.undo(), then - 1);
            Check.due(of + ": all looks and undos", story(x, 6), story(y, Math.min(saved, 5)));
        }
    }

    /** A call that changes something seen by the looks; then undo must bring all of it back. */
    static void changes(String name, On call) {
        RowVeils x = busy();
        long before = looks(x);
        call.call(x);
        Check.due(name + ": something is changed", looks(x) == before ? 0 : 1, 1);
    }
}
