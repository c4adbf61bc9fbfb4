/** The sentences of promises 12 to 16: append, clearBuffer, firstError, rows, undo. */
final class EdgesOfTexts {
    private static final int NONE = RowVeils.NONE;

    private EdgesOfTexts() {
    }

    static void all(Edges e) {
        e.under("Promise 12: append");
        e.test("`int append(int code)", EdgesOfTexts::append);
        e.test("- `code`: the character code, 33 to 126",
                () -> Edges.range("append", 33, 126, Edges.ARGUMENT, (x, n) -> x.append(n)));
        e.test("Returns the new length of the buffer.", EdgesOfTexts::appendLengths);
        e.test("Throws `IllegalArgumentException` if code is not 33 to 126", () -> {
            Edges.refused(Edges.ARGUMENT, "a space", Edges::busy, x -> x.append(' '));
            Edges.refused(Edges.ARGUMENT, "delete", Edges::busy, x -> x.append(127));
            Edges.refused(Edges.ARGUMENT, "a space, without room", Edges::busyAndFull, x -> x.append(' '));
        });
        e.test("Throws `IllegalStateException` if the buffer has 60 characters", EdgesOfTexts::appendWithoutRoom);

        e.under("Promise 13: clearBuffer");
        e.test("`int clearBuffer()`: Clears the buffer.", EdgesOfTexts::clearBuffer);
        e.test("Returns the length that it had.", EdgesOfTexts::clearBufferLengths);

        e.under("Promise 14: firstError");
        e.test("`int firstError()`: Finds the first syntax error of the buffer.", EdgesOfTexts::firstOfErrors);
        e.test("Returns the index of the first character that is a syntax error", EdgesOfTexts::errorIndexes);

        e.under("Promise 15: rows");
        e.test("`int rows() throws", EdgesOfTexts::rowsUpToRoom);
        e.test("Undoable, as one call, also if none comes.", EdgesOfTexts::rowsUndoable);
        e.test("Returns how many come.", EdgesOfTexts::rowsAnswers);
        e.test("Throws `IllegalArgumentException` if the buffer is not complete rows as a text", EdgesOfTexts::rowsWrong);

        e.under("Promise 16: undo");
        e.test("`int undo() throws", EdgesOfTexts::undo);
        e.test("Returns how many saved states are left.", EdgesOfTexts::undoAnswers);
        e.test("Throws `IllegalStateException` if there is none", EdgesOfTexts::undoNone);
    }

    private static RowVeils with(String text) {
        RowVeils x = Edges.busy();
        x.clearBuffer();
        Check.type(x, text);
        return x;
    }

    private static RowVeils sixteenWith(int rows, String text) {
        RowVeils x = Edges.sixteen();
        for (int i = 16; i > rows; i--) {
            x.drop(0);
        }
        Check.type(x, text);
        return x;
    }

    // ---- Promise 12

    private static void append() {
        StringBuilder text = new StringBuilder();
        RowVeils x = new RowVeils();
        for (int i = 0; i < 60; i++) {
            int code = i % 2 == 0 ? 33 + i : 126 - i;
            x.append(code);
            text.append((char) code);
            Check.due("digest", x.digest(), Check.digestOf(x, text.toString()));
        }
        x.clearBuffer();
        x.append(126);
        Check.due("digest after it was cleared", x.digest(), Check.digestOf(x, "~"));
    }

    private static void appendLengths() {
        RowVeils x = Edges.busy();
        for (int length = 7; length <= 60; length++) {
            Check.due("append", x.append(33), length);
        }
        x.clearBuffer();
        Check.due("append after it was cleared", x.append(33), 1);
        x.clearBuffer();
        Check.add(x, "0n5");
        Check.due("append after rows", x.append(33), 1);
    }

    private static void appendWithoutRoom() {
        RowVeils x = new RowVeils();
        for (int i = 0; i < 59; i++) {
            x.append('0');
        }
        Check.due("the 60th", x.append('0'), 60);
        Check.dueState(x, "the 61st", () -> x.append('0'));
        Check.dueState(x, "and again", () -> x.append('~'));
        Edges.refused(Edges.STATE, "of a busy one", Edges::busyAndFull, y -> y.append(33));
        Check.due("they are not lost", x.clearBuffer(), 60);
    }

    // ---- Promise 13

    private static void clearBuffer() {
        RowVeils x = Edges.busy();
        RowVeils y = Edges.busy();
        x.clearBuffer();
        Check.due("no characters", x.firstError(), 0);
        Check.due("digest", x.digest(), Check.digestOf(x, ""));
        Check.due("nothing else is changed", Edges.story(x, 6), Edges.story(y, 6));
    }

    private static void clearBufferLengths() {
        for (int length = 0; length <= 60; length++) {
            RowVeils x = new RowVeils();
            for (int i = 0; i < length; i++) {
                x.append(33 + i);
            }
            Check.due("clearBuffer", x.clearBuffer(), length);
            Check.due("clearBuffer again", x.clearBuffer(), 0);
        }
    }

    // ---- Promise 14

    private static void firstOfErrors() {
        String[] texts = {"x", "xx", "0n5x", "0n5xx", "0n5!x0n5x", "0n05,5", "0n5,,,", "0n5,0nn,0n100", "~~~~"};
        int[] first = {0, 0, 3, 3, 4, 3, 4, 6, 0};
        for (int i = 0; i < texts.length; i++) {
            RowVeils x = with(texts[i]);
            Check.due("firstError of " + texts[i], x.firstError(), first[i]);
            Check.due("firstError of " + texts[i] + ", again", x.firstError(), first[i]);
            Check.due("the text stays", x.digest(), Check.digestOf(x, texts[i]));
        }
    }

    private static void errorIndexes() {
        String right = "4w99!!!,0n0,1e1!,2s20!!,3w3,0n44!,1e55,2s6,3n77!!!,4e8,0s9,1";
        Check.due("characters", right.length(), 60);
        for (int length = 0; length <= 60; length++) {
            Check.due("none in " + length, with(right.substring(0, length)).firstError(), length);
        }
        for (int at = 0; at < 60; at++) {
            String text = right.substring(0, at) + "%" + right.substring(at + 1);
            Check.due("at " + at, with(text).firstError(), at);
        }
        Check.due("in the 60th", with(right.substring(0, 59) + "5").firstError(), 59);
    }

    // ---- Promise 15

    private static void rowsUpToRoom() {
        for (int rows = 11; rows <= 16; rows++) {
            RowVeils x = sixteenWith(rows, "1e20!,2s21!!,3w22!!!,4n23");
            int come = Math.min(4, 16 - rows);
            Check.due("rows come to " + rows, x.rows(), come);
            Check.due("rows then", x.count(0), rows + come);
            for (int i = 0; i < come; i++) {
                int row = rows + i;
                int told = x.rowOf(row, 0) * 10000 + x.rowOf(row, 1) * 1000 + x.rowOf(row, 2) * 10 + x.rowOf(row, 3);
                Check.due("row " + row, told, new int[] {11201, 22212, 33223, 40230}[i]);
            }
            Check.due("the one before them", x.rowOf(rows - 1, 2), 15);
            Check.due("the buffer is clear", x.digest(), Check.digestOf(x, ""));
            Check.due("no characters", x.clearBuffer(), 0);
        }
    }

    private static void rowsUndoable() {
        Edges.undoable("rows: four", x -> Check.add(x, "1e20!,2s21!!,3w22!!!,4n23"));
        Edges.undoable("rows: more than there is room for", x -> Check.add(x, "0n1,0n1,0n1,0n1,0n1,0n1,0n1,0n1,0n1,0n1"));
        RowVeils x = sixteenWith(16, "1e20,2s21");
        int saved = x.count(9);
        Check.due("sixteen: saved", saved, 6);
        x.undo();
        x.row(0, 0, 15, 0);
        Check.due("none comes", x.rows(), 0);
        Check.due("none comes: undone", x.undo(), 5);
        Check.due("none comes: rows", x.count(0), 16);
        Check.due("the row before", x.undo(), 4);
        Check.due("the row before: rows", x.count(0), 15);
        RowVeils y = sixteenWith(16, "1e20");
        y.undo();
        y.undo();
        y.row(0, 0, 0, 0);
        y.row(0, 0, 0, 0);
        y.undo();
        y.undo();
        y.row(0, 0, 0, 0);
        y.row(0, 0, 0, 0);
        y.undo();
        Check.due("saved before", y.count(9), 5);
        Check.due("one comes", y.rows(), 1);
        Check.due("saved then", y.count(9), 6);
        Check.type(y, "1e20");
        Check.due("none comes, full", y.rows(), 0);
        Check.due("saved then, too", y.count(9), 6);
        Check.due("undone", y.undo(), 5);
        Check.due("rows then", y.count(0), 16);
    }

    private static void rowsAnswers() {
        String text = "0n0";
        for (int many = 1; many <= 15; many++) {
            RowVeils x = new RowVeils();
            Check.due(many + " to none", Check.add(x, text), many);
            Check.due("rows", x.count(0), many);
            Check.due(many + " more", Check.add(x, text), Math.min(many, 16 - many));
            Check.due("rows then", x.count(0), Math.min(16, 2 * many));
            text += ",0n" + many % 10;
        }
    }

    private static void rowsWrong() {
        String[] wrong = {"", "0", "0n", "0n5,", "0n5,1", "0n5,1e", ",", "!", "0n!", "0n5!!!!", "0n5!!!!,0n5", "0n05",
            "0n100", "0n5,x", "x,0n5", "0n5,,0n5", "5n5", "0n5!5", "00n5", "0n5,0n5,0n5,0n5,0n5,0n5,0n5,0n5,0n"};
        for (String text : wrong) {
            Edges.refused(Edges.ARGUMENT, "rows of " + text, () -> with(text), RowVeils::rows);
            RowVeils x = sixteenWith(16, text);
            Check.dueArgument(x, "rows of " + text + ", without room", x::rows);
            Check.due("the text stays", x.clearBuffer(), text.length());
        }
        Edges.taken("rows of what is right", () -> with("0n5"), RowVeils::rows);
    }

    // ---- Promise 16

    private static void undo() {
        RowVeils x = new RowVeils();
        long[] looks = new long[7];
        looks[0] = Edges.looks(x);
        x.row(0, 0, 5, 3);
        looks[1] = Edges.looks(x);
        x.master(0, 4);
        looks[2] = Edges.looks(x);
        x.ask(0, NONE, 0, 99);
        looks[3] = Edges.looks(x);
        x.drop(0);
        looks[4] = Edges.looks(x);
        x.force(3, false);
        looks[5] = Edges.looks(x);
        x.set(2, 1);
        for (int left = 5; left >= 0; left--) {
            x.undo();
            Check.due("looks with " + left + " left", Edges.looks(x), looks[left]);
            Check.due("it is dropped", x.count(9), left);
        }
        x.row(1, 1, 1, 1);
        x.undo();
        Check.due("after a new call", Edges.looks(x), looks[0]);
    }

    private static void undoAnswers() {
        for (int saved = 1; saved <= 6; saved++) {
            RowVeils x = Edges.busyWithSaved(saved);
            for (int left = saved - 1; left >= 0; left--) {
                Check.due("undo", x.undo(), left);
                Check.due("count(9)", x.count(9), left);
            }
        }
        RowVeils y = new RowVeils();
        for (int i = 0; i < 100; i++) {
            y.set(0, 1 + i % 9);
        }
        Check.due("undo of a hundred", y.undo(), 5);
    }

    private static void undoNone() {
        Edges.refused(Edges.STATE, "of a new one", RowVeils::new, RowVeils::undo);
        Edges.refused(Edges.STATE, "of one that is all undone", () -> Edges.busyWithSaved(0), RowVeils::undo);
        RowVeils x = new RowVeils();
        Check.type(x, "0n5");
        Check.dueState(x, "with a text alone", x::undo);
        x.digest();
        Check.dueState(x, "after looks alone", x::undo);
        Check.dueText("a thrown call", Check.outcome(() -> x.row(5, 0, 0, 0)), "IndexOutOfBoundsException");
        Check.dueState(x, "after a thrown call alone", x::undo);
        x.set(0, 1);
        Check.due("of one that changes nothing", x.undo(), 0);
        Check.dueState(x, "after that", x::undo);
    }
}
