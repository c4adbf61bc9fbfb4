/** Promises 12 to 15: append, clearBuffer, firstError, rows. */
public final class TextsTest {
    public static void main(String[] args) {
        append();
        clearBuffer();
        firstError();
        eachCharacter();
        rows();
        rowsWithoutRoom();
        rowsIncomplete();
        longest();
        Check.end("TextsTest");
    }

    private static void append() {
        RowVeils x = new RowVeils();
        Check.due("append: 33", x.append(33), 1);
        Check.due("append: 126", x.append(126), 2);
        Check.dueArgument(x, "append: 32", () -> x.append(32));
        Check.dueArgument(x, "append: 127", () -> x.append(127));
        Check.dueArgument(x, "append: -1", () -> x.append(-1));
        Check.dueArgument(x, "append: 65536 + 48", () -> x.append(65584));
        Check.due("append: digest", x.digest(), Check.digestOf(x, "!~"));
        Check.due("append: no saved state", x.count(9), 0);
        for (int i = 2; i < 60; i++) {
            Check.due("append: length", x.append(48 + i % 10), i + 1);
        }
        Check.dueState(x, "append: a 61st", () -> x.append(48));
        Check.dueArgument(x, "append: a 61st, of code 32", () -> x.append(32));
    }

    private static void clearBuffer() {
        RowVeils x = new RowVeils();
        Check.due("clearBuffer: of nothing", x.clearBuffer(), 0);
        Check.type(x, "0n5");
        Check.due("clearBuffer: of three", x.clearBuffer(), 3);
        Check.due("clearBuffer: empty then", x.clearBuffer(), 0);
        Check.due("clearBuffer: digest", x.digest(), Check.digestOf(x, ""));
        Check.due("clearBuffer: no saved state", x.count(9), 0);
        Check.due("clearBuffer: append after it", x.append(49), 1);
        for (int i = 1; i < 60; i++) {
            x.append(49);
        }
        Check.due("clearBuffer: of sixty", x.clearBuffer(), 60);
    }

    private static void dueError(String text, int want) {
        RowVeils x = new RowVeils();
        Check.type(x, text);
        Check.dueLook(x, "firstError of " + text, want, x::firstError);
    }

    private static void firstError() {
        String[] right = {"", "0", "4w", "0n0", "0n9", "0n99", "0n10", "1e5!", "2s50!!", "3w99!!!", "0n0!!!,",
            "0n0,1", "0n0,1e", "0n0,1e5,2s50!,3w99!!", "4n0!"};
        for (String text : right) {
            dueError(text, text.length());
        }
        dueError("5", 0);
        dueError("n", 0);
        dueError(",", 0);
        dueError("!", 0);
        dueError("00", 1);
        dueError("0N", 1);
        dueError("0a", 1);
        dueError("0nn", 2);
        dueError("0n!", 2);
        dueError("0n,", 2);
        dueError("0n00", 3);
        dueError("0n05", 3);
        dueError("0n100", 4);
        dueError("0n999", 4);
        dueError("0n5n", 3);
        dueError("0n5!!!!", 6);
        dueError("0n5!5", 4);
        dueError("0n50!5", 5);
        dueError("0n5,,", 4);
        dueError("0n5,5", 4);
        dueError("0n5,0n5,0n5~0n5", 11);
        dueError("0n5!,1e!", 7);
        dueError("x0n5", 0);
    }

    /** Behind each beginning, each character is an error, or not. */
    private static void eachCharacter() {
        String[] beginnings = {"", "2", "2s", "2s0", "2s1", "2s12", "2s1!", "2s1!!", "2s1!!!", "2s1,"};
        String[] allowed = {"01234", "nesw", "0123456789", "!,", "0123456789!,", "!,", "!,", "!,", ",", "01234"};
        for (int i = 0; i < beginnings.length; i++) {
            int length = beginnings[i].length();
            for (int code = 33; code <= 126; code++) {
                RowVeils x = new RowVeils();
                Check.type(x, beginnings[i]);
                x.append(code);
                int want = allowed[i].indexOf(code) >= 0 ? length + 1 : length;
                Check.due("firstError of " + beginnings[i] + (char) code, x.firstError(), want);
            }
        }
    }

    private static void dueRow(RowVeils x, int row, int owner, int place, int value, int secrecy) {
        int[] want = {owner, place, value, secrecy};
        for (int what = 0; what < 4; what++) {
            Check.due("rows: rowOf(" + row + ", " + what + ")", x.rowOf(row, what), want[what]);
        }
    }

    private static void rows() {
        RowVeils x = new RowVeils();
        x.row(1, 2, 3, 0);
        Check.type(x, "0n0,1e9!,2s10!!,3w99!!!,4n42");
        Check.due("rows: five", x.rows(), 5);
        dueRow(x, 0, 1, 2, 3, 0);
        dueRow(x, 1, 0, 0, 0, 0);
        dueRow(x, 2, 1, 1, 9, 1);
        dueRow(x, 3, 2, 2, 10, 2);
        dueRow(x, 4, 3, 3, 99, 3);
        dueRow(x, 5, 4, 0, 42, 0);
        Check.due("rows: they count as one call", x.count(9), 2);
        Check.due("rows: the buffer is clear", x.digest(), Check.digestOf(x, ""));
        Check.due("rows: undone as one", x.undo(), 1);
        Check.due("rows: gone", x.count(0), 1);
        Check.due("rows: the buffer stays clear", x.clearBuffer(), 0);
        Check.due("rows: one", Check.add(x, "2w7"), 1);
        dueRow(x, 1, 2, 3, 7, 0);
    }

    private static void rowsWithoutRoom() {
        RowVeils x = new RowVeils();
        for (int i = 0; i < 14; i++) {
            x.row(0, 0, i, 0);
        }
        Check.due("rows: up to the first without room", Check.add(x, "1n1,2n2,3n3,4n4"), 2);
        Check.due("rows: sixteen", x.count(0), 16);
        dueRow(x, 14, 1, 0, 1, 0);
        dueRow(x, 15, 2, 0, 2, 0);
        Check.due("rows: the buffer is clear, though not all came", x.clearBuffer(), 0);
        x.undo();
        x.drop(0);
        x.row(4, 1, 1, 1);
        x.row(4, 1, 1, 1);
        x.row(4, 1, 1, 1);
        Check.due("rows: none comes", Check.add(x, "1n1"), 0);
        Check.due("rows: saved also if none comes", x.count(9), 6);
        Check.due("rows: the one before it", x.undo(), 5);
        Check.due("rows: still sixteen", x.count(0), 16);
    }

    private static void rowsIncomplete() {
        String[] wrong = {"", "0", "0n", "0n5,", "0n5,1", "0n5,1e", "0n05", "0n100", "0n5!!!!", "5n5", "0n5,,0n5",
            "0n5;", "0n5!5", "~", "0n5,0x5", "n5"};
        for (String text : wrong) {
            RowVeils x = new RowVeils();
            x.row(1, 1, 1, 1);
            Check.type(x, text);
            Check.dueArgument(x, "rows of " + text, x::rows);
            Check.due("rows: the buffer stays", x.clearBuffer(), text.length());
            Check.due("rows: no row came", x.count(0), 1);
        }
        RowVeils x = new RowVeils();
        for (int i = 0; i < 16; i++) {
            x.row(0, 0, 0, 0);
        }
        Check.type(x, "0n5,");
        Check.dueArgument(x, "rows: incomplete, and no room", x::rows);
    }

    private static void longest() {
        String full = "0n0,0n1,0n2,0n3,0n4,0n5,0n6,0n7,0n8,0n9,1n0,1n1,1n2,1n3,1n10";
        RowVeils x = new RowVeils();
        Check.type(x, full);
        Check.due("rows: sixty characters", full.length(), 60);
        Check.due("firstError: none in sixty", x.firstError(), 60);
        Check.due("rows: fifteen", x.rows(), 15);
        dueRow(x, 14, 1, 0, 10, 0);
        String open = full.substring(0, 59) + ",";
        Check.type(x, open);
        Check.due("firstError: sixty, and more to come", x.firstError(), 60);
        Check.dueArgument(x, "rows: sixty, and more to come", x::rows);
    }
}
