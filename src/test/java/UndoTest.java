/** Promise 16: undo, and what each undoable method saves. */
public final class UndoTest {
    private static final int NONE = RowVeils.NONE;

    public static void main(String[] args) {
        eachUndoable();
        nothingChanged();
        sixSaved();
        oftenAround();
        whatIsNotSaved();
        looksSaveNothing();
        Check.end("UndoTest");
    }

    private static RowVeils some() {
        RowVeils x = new RowVeils();
        Check.add(x, "0n10,0e20!,1s30!!,2w95!!!");
        x.person(1, 2, 2);
        x.master(2, 3);
        x.ask(0, NONE, 0, 99);
        x.ask(0, NONE, 0, 15);
        x.askSum(0, NONE, 0, 15);
        return x;
    }

    private static void dueUndone(String name, RowVeils x, Check.Call call) {
        // There is room for one more then, so that no state is dropped, and the number is the same after the undo.
        x.set(1, 2);
        x.undo();
        long before = x.digest();
        int saved = x.count(9);
        call.run();
        Check.due(name + ": saved states", x.count(9), saved + 1);
        Check.due("undo of " + name, x.undo(), saved);
        Check.due("undo of " + name + ": digest", x.digest(), before);
    }

    private static void eachUndoable() {
        RowVeils x = some();
        dueUndone("row", x, () -> x.row(1, 1, 1, 1));
        dueUndone("drop", x, () -> x.drop(0));
        dueUndone("change", x, () -> x.change(1, 99));
        dueUndone("person", x, () -> x.person(1, 3, 3));
        dueUndone("master", x, () -> x.master(2, 0));
        dueUndone("force", x, () -> x.force(1, false));
        dueUndone("set 0", x, () -> x.set(0, 7));
        dueUndone("set 1", x, () -> x.set(1, 7));
        dueUndone("set 2", x, () -> x.set(2, 1));
        dueUndone("ask", x, () -> x.ask(0, NONE, 0, 20));
        dueUndone("ask of another asker", x, () -> x.ask(1, NONE, 0, 99));
        dueUndone("askSum", x, () -> x.askSum(1, NONE, 0, 99));
        dueUndone("forget", x, () -> x.forget(0));
        dueUndone("rows", x, () -> Check.add(x, "0n1,0n2"));
        x.ask(3, NONE, 0, 99);
        dueUndone("ask, given away", x, () -> x.ask(3, NONE, 15, 99));
        x.set(0, 9);
        dueUndone("ask, refused", x, () -> x.ask(0, NONE, 0, 99));
        dueUndone("askSum, refused", x, () -> x.askSum(0, NONE, 0, 99));
    }

    private static void nothingChanged() {
        RowVeils x = some();
        dueUndone("change of nothing", x, () -> x.change(0, 10));
        dueUndone("person of nothing", x, () -> x.person(1, 2, 2));
        dueUndone("master of nothing", x, () -> x.master(2, 3));
        dueUndone("force of nothing", x, () -> x.force(0, true));
        dueUndone("set of nothing", x, () -> x.set(0, 1));
        dueUndone("forget of nothing", x, () -> x.forget(4));
    }

    private static void sixSaved() {
        RowVeils x = new RowVeils();
        for (int i = 0; i < 10; i++) {
            x.row(0, 0, i, 0);
            Check.due("saved states after " + (i + 1), x.count(9), Math.min(i + 1, 6));
        }
        for (int left = 5; left >= 0; left--) {
            Check.due("undo: left", x.undo(), left);
            Check.due("undo: rows", x.count(0), 4 + left);
            Check.due("undo: the last one's value", x.rowOf(3 + left, 2), 3 + left);
        }
        Check.dueState(x, "undo: none left", x::undo);
        Check.due("undo: four rows stay", x.count(0), 4);
        x.row(1, 1, 1, 1);
        Check.due("undo: after all", x.undo(), 0);
        Check.dueState(x, "undo: none left again", x::undo);
    }

    private static void oftenAround() {
        RowVeils x = new RowVeils();
        x.row(0, 0, 0, 0);
        for (int i = 1; i < 60; i++) {
            x.change(0, i);
            x.change(0, i + 1);
            x.change(0, i + 2);
            x.undo();
            x.undo();
            Check.due("undo: back to " + i, x.rowOf(0, 2), i);
        }
        // Seven were saved in each round, from four on: one was dropped, and two were taken back.
        for (int i = 58; i >= 55; i--) {
            Check.due("undo: left", x.undo(), i - 55);
            Check.due("undo: further back to " + i, x.rowOf(0, 2), i);
        }
        Check.dueState(x, "undo: no further back", x::undo);
    }

    private static void whatIsNotSaved() {
        RowVeils x = new RowVeils();
        x.row(0, 0, 5, 0);
        Check.type(x, "1e5");
        x.undo();
        Check.due("undo: the buffer stays", x.firstError(), 3);
        Check.due("undo: rows", x.rows(), 1);
        x.undo();
        Check.due("undo: the buffer is not brought back", x.clearBuffer(), 0);
        x.row(0, 0, 5, 0);
        Check.outcome(() -> x.row(9, 9, 9, 9));
        Check.due("undo: what throws saves nothing", x.undo(), 0);
        Check.due("undo: no rows", x.count(0), 0);
    }

    private static void looksSaveNothing() {
        RowVeils x = new RowVeils();
        x.row(0, 0, 5, 0);
        x.rowOf(0, 4);
        x.personOf(0, 4);
        x.veils(0, 0);
        x.remembered(0, 0);
        x.count(8);
        x.ifAsked(0, NONE, 0, 99, 0);
        x.hides(0);
        x.blindest();
        x.needed(0, NONE);
        x.openness();
        x.digest();
        x.append(48);
        x.firstError();
        x.clearBuffer();
        Check.due("saved states", x.count(9), 1);
    }
}
