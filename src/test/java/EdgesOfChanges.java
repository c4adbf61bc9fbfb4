/** The sentences of promises 1 to 8: a new object, row, drop, change, person, master, force, set. */
final class EdgesOfChanges {
    private static final int NONE = RowVeils.NONE;

    private EdgesOfChanges() {
    }

    static void all(Edges e) {
        e.under("Promise 1: A new object");
        e.test("`RowVeils()`: Creates no rows, and people as told above, with an empty buffer.", EdgesOfChanges::newObject);
        row(e);
        drop(e);
        change(e);
        person(e);
        master(e);
        force(e);
        set(e);
    }

    private static void newObject() {
        RowVeils x = new RowVeils();
        Check.due("rows", x.count(0), 0);
        Check.due("characters", x.clearBuffer(), 0);
        Check.due("firstError", x.firstError(), 0);
        int[] numbers = {0, 0, NONE, 0, 0, 0, 0, 0};
        for (int person = 0; person < 5; person++) {
            for (int what = 0; what < 8; what++) {
                Check.due("personOf(" + person + ", " + what + ")", x.personOf(person, what), numbers[what]);
            }
        }
        Edges.refused(Edges.INDEX, "no row 0", RowVeils::new, y -> y.rowOf(0, 0));
        Edges.refused(Edges.STATE, "nothing to undo", RowVeils::new, RowVeils::undo);
        RowVeils busy = Edges.busyAndFull();
        RowVeils beside = new RowVeils();
        Check.due("a busy one has its rows", busy.count(0), 16);
        Check.due("one made beside a busy one", Edges.looks(beside), Edges.looks(new RowVeils()));
    }

    // ---- Promise 2

    private static void row(Edges e) {
        e.under("Promise 2: row");
        e.test("`int row(", () -> {
            RowVeils x = Edges.busy();
            x.row(4, 3, 99, 3);
            Check.due("one row more", x.count(0), 8);
            Check.due("the one before it", x.rowOf(6, 0) * 1000 + x.rowOf(6, 2), 4000);
            Check.due("the first one", x.rowOf(0, 2), 10);
            Edges.changes("row", y -> y.row(0, 0, 0, 0));
        });
        e.test("Undoable.", () -> Edges.undoable("row", x -> x.row(4, 3, 99, 3)));
        e.test("- `owner`: 0 to 4", () -> {
            Edges.range("owner", 0, 4, Edges.INDEX, (x, n) -> x.row(n, 1, 2, 1));
            for (int n = 0; n <= 4; n++) {
                RowVeils x = new RowVeils();
                Check.due("owner of row", x.rowOf(x.row(n, 1, 2, 1), 0), n);
            }
        });
        e.test("- `place`: 0 to 3", () -> {
            Edges.range("place", 0, 3, Edges.INDEX, (x, n) -> x.row(1, n, 2, 1));
            for (int n = 0; n <= 3; n++) {
                RowVeils x = new RowVeils();
                Check.due("place of row", x.rowOf(x.row(1, n, 2, 1), 1), n);
            }
        });
        e.test("- `value`: 0 to 99", () -> {
            Edges.range("value", 0, 99, Edges.ARGUMENT, (x, n) -> x.row(1, 1, n, 1));
            for (int n = 0; n <= 99; n++) {
                RowVeils x = new RowVeils();
                Check.due("value of row", x.rowOf(x.row(1, 1, n, 1), 2), n);
            }
        });
        e.test("- `secrecy`: 0 to 3", () -> {
            Edges.range("secrecy", 0, 3, Edges.ARGUMENT, (x, n) -> x.row(1, 1, 2, n));
            for (int n = 0; n <= 3; n++) {
                RowVeils x = new RowVeils();
                Check.due("secrecy of row", x.rowOf(x.row(1, 1, 2, n), 3), n);
            }
        });
        e.test("Returns its number.", () -> {
            RowVeils x = new RowVeils();
            for (int i = 0; i < 16; i++) {
                Check.due("row", x.row(0, 0, 0, 0), i);
            }
            x.drop(3);
            Check.due("row after a drop", x.row(0, 0, 0, 0), 15);
        });
        e.test("Throws `IndexOutOfBoundsException` if there is no such owner or place", () -> {
            Edges.refused(Edges.INDEX, "no owner", Edges::busy, x -> x.row(-1, 0, 0, 0));
            Edges.refused(Edges.INDEX, "no place", Edges::busy, x -> x.row(0, NONE, 0, 0));
            Edges.refused(Edges.INDEX, "neither", Edges::busyAndFull, x -> x.row(5, 4, -1, -1));
        });
        e.test("Throws `IllegalArgumentException` if value or secrecy is out of range", () -> {
            Edges.refused(Edges.ARGUMENT, "value", Edges::busy, x -> x.row(0, 0, 100, 0));
            Edges.refused(Edges.ARGUMENT, "secrecy", Edges::busy, x -> x.row(0, 0, 0, 4));
            Edges.refused(Edges.ARGUMENT, "both, without room", Edges::busyAndFull, x -> x.row(0, 0, -1, -1));
        });
        e.test("Throws `IllegalStateException` if there are 16 rows", EdgesOfChanges::rowWithoutRoom);
    }

    private static void rowWithoutRoom() {
        Edges.refused(Edges.STATE, "row, one by one", Edges::sixteen, x -> x.row(4, 3, 99, 3));
        RowVeils x = Edges.sixteen();
        x.drop(8);
        Check.due("after a drop", x.row(0, 0, 0, 0), 15);
        Check.dueState(x, "full again", () -> x.row(0, 0, 0, 0));
        x.undo();
        Check.due("after an undo", x.row(0, 0, 0, 0), 15);
        RowVeils y = new RowVeils();
        for (int i = 0; i < 4; i++) {
            Check.add(y, "0n0,0n1,0n2,0n3");
        }
        Check.dueState(y, "full by texts", () -> y.row(0, 0, 0, 0));
        y.undo();
        y.row(0, 0, 0, 0);
        y.row(0, 0, 0, 0);
        y.row(0, 0, 0, 0);
        Check.due("15 rows are not 16", y.row(0, 0, 0, 0), 15);
    }

    // ---- Promise 3

    private static void drop(Edges e) {
        e.under("Promise 3: drop");
        e.test("`int drop(int row) throws IndexOutOfBoundsException`: Drops a row, also from what is remembered.",
                EdgesOfChanges::dropped);
        e.test("Undoable.", () -> {
            for (int row = 0; row < 7; row++) {
                int r = row;
                Edges.undoable("drop(" + r + ")", x -> x.drop(r));
            }
        });
        e.test("- `row`: its number", () -> {
            Edges.range("drop", 0, 6, Edges.INDEX, (x, n) -> x.drop(n));
            Edges.range("drop of sixteen", 0, 15, Edges.INDEX, Edges::sixteen, (x, n) -> x.drop(n));
        });
        e.test("Returns how many rows there are then.", () -> {
            RowVeils x = Edges.sixteen();
            for (int left = 15; left >= 0; left--) {
                Check.due("drop", x.drop(left / 2), left);
                Check.due("count(0)", x.count(0), left);
            }
        });
        e.test("Throws `IndexOutOfBoundsException` if there is no such row", () -> {
            Edges.refused(Edges.INDEX, "of none", RowVeils::new, x -> x.drop(0));
            Edges.refused(Edges.INDEX, "behind the last", Edges::busy, x -> x.drop(7));
            Edges.refused(Edges.INDEX, "NONE", Edges::busy, x -> x.drop(NONE));
            RowVeils x = Edges.busy();
            x.drop(6);
            Check.dueIndex(x, "the same number again", () -> x.drop(6));
        });
    }

    private static void dropped() {
        for (int row = 0; row < 16; row++) {
            RowVeils x = Edges.sixteen();
            for (int asker = 0; asker < 5; asker++) {
                x.ask(asker, NONE, 0, 15);
                x.ask(asker, NONE, row, row);
                x.ask(asker, asker % 4, 0, 15);
            }
            x.drop(row);
            for (int i = 0; i < 15; i++) {
                Check.due("value of row " + i, x.rowOf(i, 2), i < row ? i : i + 1);
                Check.due("place of row " + i, x.rowOf(i, 1), (i < row ? i : i + 1) % 4);
            }
            for (int asker = 0; asker < 5; asker++) {
                Check.due("all but one", x.remembered(asker, 0), 0x7FFF);
                Check.due("that one alone", x.remembered(asker, 1), 0);
                int ofPlace = 0x1111 << asker % 4;
                int want = ofPlace & (1 << row) - 1 | ofPlace >> row + 1 << row;
                Check.due("of a place", x.remembered(asker, 2), want);
                Check.due("questions", x.personOf(asker, 5), 3);
            }
            droppedOfMany(row);
        }
    }

    /** Sixteen rows that differ in all they have, less one. */
    private static void droppedOfMany(int row) {
        RowVeils x = new RowVeils();
        for (int i = 0; i < 16; i++) {
            x.row(i % 5, i % 4, 6 * i, (i + i / 4) % 4);
        }
        x.drop(row);
        for (int i = 0; i < 15; i++) {
            int was = i < row ? i : i + 1;
            int[] want = {was % 5, was % 4, 6 * was, (was + was / 4) % 4};
            for (int what = 0; what < 4; what++) {
                Check.due("rowOf(" + i + ", " + what + ") without " + row, x.rowOf(i, what), want[what]);
            }
        }
        Check.dueIndex(x, "the last number", () -> x.rowOf(15, 0));
    }

    // ---- Promise 4

    private static void change(Edges e) {
        e.under("Promise 4: change");
        e.test("`int change(int row, int value)", () -> {
            RowVeils x = Edges.busy();
            int before = x.remembered(0, 1);
            x.change(4, 95);
            Check.due("value", x.rowOf(4, 2), 95);
            Check.due("who sees it then", x.rowOf(4, 4), 1);
            Check.due("the row before it", x.rowOf(3, 2), 95);
            Check.due("the row behind it", x.rowOf(5, 2), 50);
            Check.due("what is remembered stays", x.remembered(0, 1), before);
            Check.due("what is remembered had that row", before, 1 + 16);
        });
        e.test("Undoable.", () -> {
            Edges.undoable("change", x -> x.change(6, 99));
            Edges.undoable("change of nothing", x -> x.change(0, 10));
        });
        e.test("- `row`: its number", () -> {
            Edges.range("row", 0, 6, Edges.INDEX, (x, n) -> x.change(n, 1));
            Edges.range("row of sixteen", 0, 15, Edges.INDEX, Edges::sixteen, (x, n) -> x.change(n, 1));
        });
        e.test("- `value`: 0 to 99", () -> Edges.range("value", 0, 99, Edges.ARGUMENT, (x, n) -> x.change(6, n)));
        e.test("Returns the previous value.", () -> {
            RowVeils x = Edges.sixteen();
            Check.due("from 15 to 99", x.change(15, 99), 15);
            Check.due("from 99 to 0", x.change(15, 0), 99);
            Check.due("from 0 to 0", x.change(15, 0), 0);
            Check.due("from 0 to 1", x.change(15, 1), 0);
            Check.due("of the first row", x.change(0, 7), 0);
            x.undo();
            Check.due("after an undo", x.change(0, 8), 0);
        });
        e.test("Throws `IndexOutOfBoundsException` if there is no such row", () -> {
            Edges.refused(Edges.INDEX, "of none", RowVeils::new, x -> x.change(0, 0));
            Edges.refused(Edges.INDEX, "behind the last", Edges::busy, x -> x.change(7, 5));
            Edges.refused(Edges.INDEX, "NONE, and no value", Edges::busy, x -> x.change(NONE, 100));
        });
        e.test("Throws `IllegalArgumentException` if value is out of range", () -> {
            Edges.refused(Edges.ARGUMENT, "below", Edges::busy, x -> x.change(0, -1));
            Edges.refused(Edges.ARGUMENT, "above", Edges::busy, x -> x.change(6, 100));
        });
    }

    // ---- Promise 5

    private static void person(Edges e) {
        e.under("Promise 5: person");
        e.test("`int person(int person, int rank, int home)", () -> {
            RowVeils x = Edges.busy();
            x.person(4, 3, 2);
            int[][] ranksAndHomes = {{0, 0}, {2, 1}, {0, 0}, {3, 3}, {3, 2}};
            for (int person = 0; person < 5; person++) {
                Check.due("rank of " + person, x.personOf(person, 0), ranksAndHomes[person][0]);
                Check.due("home of " + person, x.personOf(person, 1), ranksAndHomes[person][1]);
            }
            Check.due("the master stays", x.personOf(1, 2), 2);
        });
        e.test("Undoable.", () -> {
            Edges.undoable("person", x -> x.person(1, 3, 3));
            Edges.undoable("person of nothing", x -> x.person(1, 2, 1));
        });
        e.test("- `person`: 0 to 4", () -> Edges.range("person", 0, 4, Edges.INDEX, (x, n) -> x.person(n, 1, 1)));
        e.test("- `rank`: 0 to 3", () -> Edges.range("rank", 0, 3, Edges.ARGUMENT, (x, n) -> x.person(1, n, 1)));
        e.test("- `home`: 0 to 3", () -> Edges.range("home", 0, 3, Edges.INDEX, (x, n) -> x.person(1, 1, n)));
        e.test("Returns the previous rank.", () -> {
            RowVeils x = new RowVeils();
            int previous = 0;
            for (int rank : new int[] {3, 0, 0, 1, 2, 2, 3}) {
                Check.due("person", x.person(4, rank, 3), previous);
                previous = rank;
            }
            Check.due("of another one", x.person(3, 1, 1), 0);
        });
        e.test("Throws `IndexOutOfBoundsException` if there is no such person or place", () -> {
            Edges.refused(Edges.INDEX, "no person", Edges::busy, x -> x.person(5, 0, 0));
            Edges.refused(Edges.INDEX, "no place", Edges::busy, x -> x.person(0, 0, NONE));
            Edges.refused(Edges.INDEX, "neither, nor a rank", Edges::busy, x -> x.person(NONE, -1, 4));
        });
        e.test("Throws `IllegalArgumentException` if rank is out of range", () -> {
            Edges.refused(Edges.ARGUMENT, "below", Edges::busy, x -> x.person(4, -1, 3));
            Edges.refused(Edges.ARGUMENT, "above", Edges::busy, x -> x.person(0, 4, 0));
        });
    }

    // ---- Promise 6

    private static void master(Edges e) {
        e.under("Promise 6: master");
        e.test("`int master(int person, int master)", () -> {
            RowVeils x = Edges.busy();
            x.master(4, 0);
            x.master(0, NONE);
            int[] masters = {NONE, 2, NONE, NONE, 0};
            for (int person = 0; person < 5; person++) {
                Check.due("master of " + person, x.personOf(person, 2), masters[person]);
            }
        });
        e.test("Undoable.", () -> {
            Edges.undoable("master", x -> x.master(2, 4));
            Edges.undoable("master to none", x -> x.master(0, NONE));
            Edges.undoable("master of nothing", x -> x.master(4, NONE));
        });
        e.test("- `person`: 0 to 4", () -> Edges.range("person", 0, 4, Edges.INDEX, (x, n) -> x.master(n, n == 4 ? 0 : 4)));
        e.test("- `master`: 0 to 4, another one; NONE for none", () -> {
            Edges.range("master of 4", NONE, 3, Edges.INDEX, Edges::busy, (x, n) -> x.master(4, n == 4 ? 5 : n));
            Edges.range("master of 0", 1, 4, Edges.INDEX, Edges::busy,
                    (x, n) -> x.master(0, n == 0 || n == NONE ? 5 : n));
            for (int person = 0; person < 5; person++) {
                int p = person;
                Edges.taken("none for " + p, Edges::busy, x -> x.master(p, NONE));
                Edges.refused(Edges.ARGUMENT, "oneself for " + p, Edges::busy, x -> x.master(p, p));
            }
        });
        e.test("Returns the previous master, NONE if there was none.", () -> {
            RowVeils x = new RowVeils();
            int previous = NONE;
            for (int master : new int[] {4, 0, 0, NONE, NONE, 3, 1}) {
                Check.due("master", x.master(2, master), previous);
                previous = master;
            }
            Check.due("of another one", x.master(3, 2), NONE);
        });
        e.test("Throws `IndexOutOfBoundsException` if there is no such person (master can be NONE)", () -> {
            Edges.refused(Edges.INDEX, "person 5", Edges::busy, x -> x.master(5, 0));
            Edges.refused(Edges.INDEX, "person NONE", Edges::busy, x -> x.master(NONE, 0));
            Edges.refused(Edges.INDEX, "person NONE, master NONE", Edges::busy, x -> x.master(NONE, NONE));
            Edges.refused(Edges.INDEX, "master 5", Edges::busy, x -> x.master(0, 5));
            Edges.refused(Edges.INDEX, "master -2", Edges::busy, x -> x.master(0, -2));
            Edges.taken("master NONE", Edges::busy, x -> x.master(0, NONE));
        });
        e.test("Throws `IllegalArgumentException` if both are the same", () -> {
            Edges.refused(Edges.ARGUMENT, "the first", Edges::busy, x -> x.master(0, 0));
            Edges.refused(Edges.ARGUMENT, "the last", Edges::busy, x -> x.master(4, 4));
        });
    }

    // ---- Promise 7

    private static void force(Edges e) {
        e.under("Promise 7: force");
        e.test("`int force(int rule, boolean is)", () -> {
            for (int rule = 0; rule < 4; rule++) {
                RowVeils x = new RowVeils();
                x.force(rule, false);
                Check.due("out of force: " + rule, x.count(1), 15 - (1 << rule));
                x.force(rule, true);
                Check.due("in force: " + rule, x.count(1), 15);
            }
        });
        e.test("Undoable.", () -> {
            Edges.undoable("force", x -> x.force(0, false));
            Edges.undoable("force back", x -> x.force(1, true));
            Edges.undoable("force of nothing", x -> x.force(3, true));
        });
        e.test("- `rule`: 0 to 3", () -> {
            Edges.range("rule", 0, 3, Edges.INDEX, (x, n) -> x.force(n, true));
            Edges.range("rule", 0, 3, Edges.INDEX, (x, n) -> x.force(n, false));
        });
        e.plain("- `is`: whether it is in force from now on");
        e.test("Returns 1 if it was, otherwise 0.", () -> {
            for (int rule = 0; rule < 4; rule++) {
                RowVeils x = new RowVeils();
                Check.due("in force to in force", x.force(rule, true), 1);
                Check.due("in force to out of it", x.force(rule, false), 1);
                Check.due("out of it to out of it", x.force(rule, false), 0);
                Check.due("out of it to in force", x.force(rule, true), 0);
                Check.due("the others", x.count(1), 15);
            }
        });
        e.test("Throws `IndexOutOfBoundsException` if there is no such rule", () -> {
            Edges.refused(Edges.INDEX, "below", Edges::busy, x -> x.force(-1, true));
            Edges.refused(Edges.INDEX, "above", Edges::busy, x -> x.force(4, true));
            Edges.refused(Edges.INDEX, "far above, as a shift would wrap", Edges::busy, x -> x.force(32, false));
        });
    }

    // ---- Promise 8

    private static void set(Edges e) {
        e.under("Promise 8: set");
        e.test("`int set(int setting, int value)", () -> {
            RowVeils x = Edges.busy();
            x.set(0, 9);
            x.set(1, 8);
            x.set(2, 0);
            Check.due("settings", x.count(2) * 100 + x.count(3) * 10 + x.count(4), 980);
            x.set(2, 1);
            Check.due("settings then", x.count(2) * 100 + x.count(3) * 10 + x.count(4), 981);
        });
        e.test("Undoable.", () -> {
            Edges.undoable("set 0", x -> x.set(0, 9));
            Edges.undoable("set 1", x -> x.set(1, 9));
            Edges.undoable("set 2", x -> x.set(2, 0));
            Edges.undoable("set of nothing", x -> x.set(1, 2));
        });
        e.test("- `setting`: 0 to 2", () -> Edges.range("setting", 0, 2, Edges.INDEX, (x, n) -> x.set(n, 1)));
        e.test("- `value`: the new value", () -> {
            Edges.range("set(0, ..)", 1, 9, Edges.ARGUMENT, (x, n) -> x.set(0, n));
            Edges.range("set(1, ..)", 1, 9, Edges.ARGUMENT, (x, n) -> x.set(1, n));
            Edges.range("set(2, ..)", 0, 1, Edges.ARGUMENT, (x, n) -> x.set(2, n));
        });
        e.test("Returns the previous value.", () -> {
            RowVeils x = new RowVeils();
            int[][] calls = {{0, 9, 1}, {1, 8, 1}, {2, 1, 0}, {2, 1, 1}, {2, 0, 1}, {0, 9, 9}, {0, 1, 9}, {1, 1, 8}};
            for (int[] c : calls) {
                Check.due("set(" + c[0] + ", " + c[1] + ")", x.set(c[0], c[1]), c[2]);
            }
        });
        e.test("Throws `IndexOutOfBoundsException` if there is no such setting", () -> {
            Edges.refused(Edges.INDEX, "below", Edges::busy, x -> x.set(-1, 1));
            Edges.refused(Edges.INDEX, "above", Edges::busy, x -> x.set(3, 1));
            Edges.refused(Edges.INDEX, "above, and no value", Edges::busy, x -> x.set(3, 0));
        });
        e.test("Throws `IllegalArgumentException` if value is out of range", () -> {
            Edges.refused(Edges.ARGUMENT, "no least count", Edges::busy, x -> x.set(0, 0));
            Edges.refused(Edges.ARGUMENT, "too great a least count", Edges::busy, x -> x.set(0, 10));
            Edges.refused(Edges.ARGUMENT, "no coarseness", Edges::busy, x -> x.set(1, 0));
            Edges.refused(Edges.ARGUMENT, "too great a coarseness", Edges::busy, x -> x.set(1, 10));
            Edges.refused(Edges.ARGUMENT, "differences below 0", Edges::busy, x -> x.set(2, -1));
            Edges.refused(Edges.ARGUMENT, "differences above 1", Edges::busy, x -> x.set(2, 2));
        });
    }
}
