/** Promises 1 to 4: a new object, row, drop, change. */
public final class RowsTest {
    public static void main(String[] args) {
        newObject();
        row();
        rowWrong();
        drop();
        dropFromRemembered();
        change();
        Check.end("RowsTest");
    }

    private static void newObject() {
        RowVeils x = new RowVeils();
        int[] totals = {0, 15, 1, 1, 0, 0, 0, 0, 0, 0};
        for (int what = 0; what < 10; what++) {
            Check.due("new: count(" + what + ")", x.count(what), totals[what]);
        }
        int[] numbers = {0, 0, RowVeils.NONE, 0, 0, 0, 0, 0};
        for (int person = 0; person < 5; person++) {
            for (int what = 0; what < 8; what++) {
                Check.due("new: personOf(" + person + ", " + what + ")", x.personOf(person, what), numbers[what]);
            }
            Check.due("new: remembered", x.remembered(person, 0), RowVeils.NONE);
        }
        Check.due("new: firstError", x.firstError(), 0);
        Check.due("new: clearBuffer", x.clearBuffer(), 0);
        Check.due("new: digest", x.digest(), Check.digestOf(x, ""));
        Check.dueState(x, "new: undo", x::undo);
        Check.due("NONE", RowVeils.NONE, -1);
        RowVeils y = new RowVeils();
        y.row(1, 1, 1, 1);
        Check.due("new: another one's rows", x.count(0), 0);
    }

    private static void row() {
        RowVeils x = new RowVeils();
        Check.due("row: the first", x.row(0, 0, 0, 0), 0);
        Check.due("row: the second", x.row(4, 3, 99, 3), 1);
        int[] second = {4, 3, 99, 3};
        for (int what = 0; what < 4; what++) {
            Check.due("row: rowOf(0, " + what + ")", x.rowOf(0, what), 0);
            Check.due("row: rowOf(1, " + what + ")", x.rowOf(1, what), second[what]);
        }
        Check.due("row: saved states", x.count(9), 2);
        for (int i = 2; i < 16; i++) {
            Check.due("row: number " + i, x.row(i % 5, i % 4, i, i % 4), i);
        }
        Check.dueState(x, "row: a 17th", () -> x.row(0, 0, 0, 0));
        Check.dueArgument(x, "row: a 17th, secrecy 4", () -> x.row(0, 0, 0, 4));
        Check.dueIndex(x, "row: a 17th, place 4", () -> x.row(0, 4, 100, 4));
        Check.due("row: all 16", x.count(0), 16);
        Check.due("row: the last one's value", x.rowOf(15, 2), 15);
    }

    private static void rowWrong() {
        RowVeils x = new RowVeils();
        x.row(1, 1, 1, 1);
        Check.dueIndex(x, "row: owner -1", () -> x.row(-1, 0, 0, 0));
        Check.dueIndex(x, "row: owner 5", () -> x.row(5, 0, 0, 0));
        Check.dueIndex(x, "row: place -1", () -> x.row(0, -1, 0, 0));
        Check.dueIndex(x, "row: place 4", () -> x.row(0, 4, 0, 0));
        Check.dueArgument(x, "row: value -1", () -> x.row(0, 0, -1, 0));
        Check.dueArgument(x, "row: value 100", () -> x.row(0, 0, 100, 0));
        Check.dueArgument(x, "row: secrecy -1", () -> x.row(0, 0, 0, -1));
        Check.dueArgument(x, "row: secrecy 4", () -> x.row(0, 0, 0, 4));
        Check.dueIndex(x, "row: both wrong", () -> x.row(5, 0, 100, 0));
        Check.dueIndex(x, "row: far out", () -> x.row(Integer.MIN_VALUE, Integer.MAX_VALUE, 0, 0));
    }

    private static void drop() {
        RowVeils x = new RowVeils();
        Check.dueIndex(x, "drop: without rows", () -> x.drop(0));
        Check.add(x, "0n1,1e2!,2s3!!,3w4!!!");
        Check.due("drop: in the middle", x.drop(1), 3);
        int[][] left = {{0, 0, 1, 0}, {2, 2, 3, 2}, {3, 3, 4, 3}};
        for (int row = 0; row < 3; row++) {
            for (int what = 0; what < 4; what++) {
                Check.due("drop: rowOf(" + row + ", " + what + ")", x.rowOf(row, what), left[row][what]);
            }
        }
        Check.dueIndex(x, "drop: 3 of 3", () -> x.drop(3));
        Check.dueIndex(x, "drop: -1", () -> x.drop(-1));
        Check.due("drop: the last", x.drop(2), 2);
        Check.due("drop: the first", x.drop(0), 1);
        Check.due("drop: what is left", x.rowOf(0, 2), 3);
        Check.due("drop: the only one", x.drop(0), 0);
        Check.due("drop: saved states", x.count(9), 5);
        Check.due("drop: row after it", x.row(4, 1, 7, 0), 0);
    }

    private static void dropFromRemembered() {
        RowVeils x = new RowVeils();
        for (int i = 0; i < 16; i++) {
            x.row(0, i % 4, i, 0);
        }
        x.ask(0, RowVeils.NONE, 0, 99);
        x.ask(0, 1, 0, 99);
        x.ask(3, 3, 0, 99);
        Check.due("drop: all remembered", x.remembered(0, 0), 0xFFFF);
        Check.due("drop: remembered of place 1", x.remembered(0, 1), 0x2222);
        x.drop(5);
        Check.due("drop: less one", x.remembered(0, 0), 0x7FFF);
        Check.due("drop: those behind it move", x.remembered(0, 1), 0x1102);
        Check.due("drop: of another asker, too", x.remembered(3, 0), 0x4448 & 0x7FFF);
        x.drop(14);
        Check.due("drop: the last one", x.remembered(0, 0), 0x3FFF);
        x.drop(0);
        Check.due("drop: the first one", x.remembered(0, 1), 0x881);
        x.row(0, 1, 50, 0);
        Check.due("drop: a new row is in none", x.remembered(0, 0), 0x1FFF);
        Check.due("drop: questions stay, rows or not", x.personOf(0, 5), 2);
    }

    private static void change() {
        RowVeils x = new RowVeils();
        Check.dueIndex(x, "change: without rows", () -> x.change(0, 0));
        Check.add(x, "0n10,1e20");
        x.ask(0, RowVeils.NONE, 0, 15);
        Check.due("change: previous value", x.change(0, 99), 10);
        Check.due("change: new value", x.rowOf(0, 2), 99);
        Check.due("change: the other row", x.rowOf(1, 2), 20);
        Check.due("change: what is remembered stays", x.remembered(0, 0), 1);
        Check.due("change: to the same", x.change(0, 99), 99);
        Check.due("change: saved states", x.count(9), 4);
        Check.due("change: to 0", x.change(1, 0), 20);
        Check.dueIndex(x, "change: row 2", () -> x.change(2, 0));
        Check.dueIndex(x, "change: row -1 and value 100", () -> x.change(-1, 100));
        Check.dueArgument(x, "change: value 100", () -> x.change(0, 100));
        Check.dueArgument(x, "change: value -1", () -> x.change(1, -1));
    }
}
