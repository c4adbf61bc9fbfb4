/** The sentences of promises 17 to 21: rowOf, personOf, veils, remembered, count. */
final class EdgesOfLooks {
    private static final int NONE = RowVeils.NONE;

    private EdgesOfLooks() {
    }

    static void all(Edges e) {
        rowOf(e);
        personOf(e);
        veils(e);
        remembered(e);
        count(e);
    }

    // ---- Promise 17

    private static void rowOf(Edges e) {
        e.under("Promise 17: rowOf");
        e.plain("`int rowOf(");
        e.test("- `row`: its number", () -> {
            Edges.range("row", 0, 6, Edges.INDEX, (x, n) -> x.rowOf(n, 0));
            Edges.range("row of sixteen", 0, 15, Edges.INDEX, Edges::sixteen, (x, n) -> x.rowOf(n, 4));
        });
        e.test("- `what`: 0: its owner; 1: its place", EdgesOfLooks::rowOfEach);
        e.plain("Returns the number.");
        e.test("Throws `IndexOutOfBoundsException` if there is no such row", () -> {
            Edges.refused(Edges.INDEX, "of none", RowVeils::new, x -> x.rowOf(0, 0));
            Edges.refused(Edges.INDEX, "behind the last", Edges::busy, x -> x.rowOf(7, 4));
            Edges.refused(Edges.INDEX, "NONE, and no what", Edges::busy, x -> x.rowOf(NONE, -1));
        });
        e.test("Throws `IllegalArgumentException` if what is not 0 to 4",
                () -> Edges.range("what", 0, 4, Edges.ARGUMENT, (x, n) -> x.rowOf(6, n)));
    }

    private static void rowOfEach() {
        RowVeils x = Edges.busy();
        int[][] want = {{0, 0, 10, 0, 31}, {1, 1, 20, 1, 10}, {2, 2, 30, 2, 14}, {3, 3, 95, 3, 8}, {0, 0, 41, 0, 31},
            {0, 0, 50, 0, 31}, {4, 1, 0, 0, 31}};
        for (int row = 0; row < 7; row++) {
            for (int what = 0; what < 5; what++) {
                Check.due("rowOf(" + row + ", " + what + ")", x.rowOf(row, what), want[row][what]);
            }
        }
        for (int person = 0; person < 5; person++) {
            RowVeils y = new RowVeils();
            y.row(person, 3, 99, 3);
            Check.due("seen by its owner alone", y.rowOf(0, 4), 1 << person);
            y.force(0, false);
            y.force(1, false);
            y.force(2, false);
            Check.due("seen by all", y.rowOf(0, 4), 31);
        }
    }

    // ---- Promise 18

    private static void personOf(Edges e) {
        e.under("Promise 18: personOf");
        e.plain("`int personOf(");
        e.test("- `person`: 0 to 4", () -> Edges.range("person", 0, 4, Edges.INDEX, (x, n) -> x.personOf(n, 4)));
        e.test("- `what`: 0: the rank; 1: the home;", EdgesOfLooks::personOfEach);
        e.plain("Returns the number.");
        e.test("Throws `IndexOutOfBoundsException` if there is no such person", () -> {
            Edges.refused(Edges.INDEX, "NONE", Edges::busy, x -> x.personOf(NONE, 0));
            Edges.refused(Edges.INDEX, "5, and no what", Edges::busy, x -> x.personOf(5, 8));
        });
        e.test("Throws `IllegalArgumentException` if what is not 0 to 7",
                () -> Edges.range("what", 0, 7, Edges.ARGUMENT, (x, n) -> x.personOf(4, n)));
    }

    private static void personOfEach() {
        RowVeils x = Edges.busy();
        int[][] want = {{0, 0, 1, 4, 0x71, 2, 3, 1}, {2, 1, 2, 6, 0x77, 2, 3, 1}, {0, 0, NONE, 5, 0x75, 0, 1, 0},
            {3, 3, NONE, 7, 0x7F, 0, 0, 0}, {0, 0, NONE, 4, 0x71, 1, 1, 0}};
        for (int person = 0; person < 5; person++) {
            for (int what = 0; what < 8; what++) {
                Check.due("personOf(" + person + ", " + what + ")", x.personOf(person, what), want[person][what]);
            }
        }
        RowVeils y = Edges.sixteen();
        Check.due("all sixteen", y.personOf(4, 3), 16);
        Check.due("the mask of all sixteen", y.personOf(4, 4), 0xFFFF);
        for (int i = 0; i < 8; i++) {
            y.ask(4, NONE, 0, 99);
            y.askSum(4, NONE, 15, 15);
        }
        Check.due("six remembered of eight", y.personOf(4, 5), 6);
        Check.due("sixteen answers", y.personOf(4, 6), 16);
        Check.due("eight refused", y.personOf(4, 7), 8);
    }

    // ---- Promise 19

    private static void veils(Edges e) {
        e.under("Promise 19: veils");
        e.plain("`int veils(");
        e.test("- `asker`: 0 to 4", () -> Edges.range("asker", 0, 4, Edges.INDEX, (x, n) -> x.veils(n, 6)));
        e.test("- `row`: its number", () -> {
            Edges.range("row", 0, 6, Edges.INDEX, (x, n) -> x.veils(4, n));
            Edges.range("row of sixteen", 0, 15, Edges.INDEX, Edges::sixteen, (x, n) -> x.veils(0, n));
        });
        e.test("Returns a mask of the rules in force by which it is", EdgesOfLooks::veilsMasks);
        e.test("Throws `IndexOutOfBoundsException` if there is no such asker or row", () -> {
            Edges.refused(Edges.INDEX, "no asker", Edges::busy, x -> x.veils(5, 0));
            Edges.refused(Edges.INDEX, "asker NONE", Edges::busy, x -> x.veils(NONE, 0));
            Edges.refused(Edges.INDEX, "no row", Edges::busy, x -> x.veils(0, 7));
            Edges.refused(Edges.INDEX, "row NONE", Edges::busy, x -> x.veils(0, NONE));
            Edges.refused(Edges.INDEX, "of none", RowVeils::new, x -> x.veils(0, 0));
        });
    }

    private static void veilsMasks() {
        RowVeils x = new RowVeils();
        Check.add(x, "0w95!!!,0w5!!,0n95,0n5!");
        x.master(0, 1);
        x.master(1, 2);
        x.person(3, 3, 3);
        int[][] want = {{0, 0, 0, 0}, {15, 3, 4, 1}, {15, 3, 4, 1}, {4, 0, 4, 0}, {7, 3, 4, 1}};
        for (int mask = 15; mask >= 0; mask--) {
            for (int rule = 0; rule < 4; rule++) {
                x.force(rule, (mask >> rule & 1) == 1);
            }
            for (int asker = 0; asker < 5; asker++) {
                for (int row = 0; row < 4; row++) {
                    Check.due("veils(" + asker + ", " + row + ")", x.veils(asker, row), want[asker][row] & mask);
                }
            }
        }
    }

    // ---- Promise 20

    private static void remembered(Edges e) {
        e.under("Promise 20: remembered");
        e.plain("`int remembered(");
        e.test("- `asker`: 0 to 4", () -> Edges.range("asker", 0, 4, Edges.INDEX, (x, n) -> x.remembered(n, 0)));
        e.test("- `place`: its place, 0 for the oldest one", EdgesOfLooks::rememberedPlaces);
        e.test("Returns a mask of its rows; NONE if there are not so many.", EdgesOfLooks::rememberedMasks);
        e.test("Throws `IndexOutOfBoundsException` if there is no such asker", () -> {
            Edges.refused(Edges.INDEX, "NONE", Edges::busy, x -> x.remembered(NONE, 0));
            Edges.refused(Edges.INDEX, "5, and no place", Edges::busy, x -> x.remembered(5, -1));
        });
        e.test("Throws `IllegalArgumentException` if place is below 0", () -> {
            Edges.refused(Edges.ARGUMENT, "below by 1", Edges::busy, x -> x.remembered(0, -1));
            Edges.refused(Edges.ARGUMENT, "far below", Edges::busy, x -> x.remembered(4, Integer.MIN_VALUE));
            Edges.taken("at 0", RowVeils::new, x -> x.remembered(4, 0));
            Edges.taken("far above", Edges::busy, x -> x.remembered(4, Integer.MAX_VALUE));
        });
    }

    private static void rememberedPlaces() {
        RowVeils x = Edges.sixteen();
        for (int i = 0; i < 14; i++) {
            x.ask(1, NONE, i, i);
            for (int place = 0; place <= i && place < 6; place++) {
                Check.due("remembered(1, " + place + ")", x.remembered(1, place), 1 << Math.max(0, i - 5) + place);
            }
        }
        x.undo();
        Check.due("after an undo: the oldest", x.remembered(1, 0), 1 << 7);
        Check.due("after an undo: the latest", x.remembered(1, 5), 1 << 12);
    }

    private static void rememberedMasks() {
        RowVeils x = Edges.sixteen();
        for (int many = 0; many <= 6; many++) {
            for (int place = many; place < 40; place++) {
                Check.due("of " + many + " the place " + place, x.remembered(2, place), NONE);
            }
            x.ask(2, NONE, 0, 99);
            x.ask(3, NONE, 50, 60);
        }
        Check.due("all rows", x.remembered(2, 5), 0xFFFF);
        Check.due("no rows", x.remembered(3, 5), 0);
        Check.due("a seventh place", x.remembered(2, 6), NONE);
        Check.due("the greatest place", x.remembered(2, Integer.MAX_VALUE), NONE);
        Check.due("a place whose sixfold wraps around", x.remembered(2, 0x2AAAAAAB), NONE);
    }

    // ---- Promise 21

    private static void count(Edges e) {
        e.under("Promise 21: count");
        e.plain("`int count(");
        e.test("- `what`: 0: rows; 1: a mask of the rules in force", EdgesOfLooks::countEach);
        e.plain("Returns the number.");
        e.test("Throws `IllegalArgumentException` if what is not 0 to 9", () -> {
            Edges.range("what", 0, 9, Edges.ARGUMENT, (x, n) -> x.count(n));
            Edges.range("what, new", 0, 9, Edges.ARGUMENT, RowVeils::new, (x, n) -> x.count(n));
        });
    }

    private static void countEach() {
        RowVeils x = Edges.busy();
        int[] want = {7, 13, 2, 2, 1, 8, 2, 1, 9, 6};
        for (int what = 0; what < 10; what++) {
            Check.due("count(" + what + ")", x.count(what), want[what]);
        }
        RowVeils y = new RowVeils();
        for (int i = 0; i < 16; i++) {
            y.row(0, 3, 99, 3);
        }
        Check.due("all pairs but the owner's", y.count(8), 64);
        y.force(0, false);
        Check.due("veiled by several rules", y.count(8), 64);
        y.force(1, false);
        y.force(2, false);
        Check.due("veiled by none", y.count(8), 0);
        for (int rule = 3; rule >= 0; rule--) {
            y.force(rule, false);
        }
        Check.due("no rules in force", y.count(1), 0);
        givenAway();
    }

    private static void givenAway() {
        RowVeils x = Edges.sixteen();
        x.ask(0, NONE, 0, 7);
        x.ask(0, NONE, 0, 9);
        Check.due("two more give nothing away", x.count(7), 0);
        x.ask(0, NONE, 0, 8);
        Check.due("near two of them, but one answer", x.count(7), 1);
        x.set(2, 1);
        x.ask(0, NONE, 0, 6);
        Check.due("refused by setting 2", x.count(7), 1);
        x.set(2, 0);
        x.set(0, 8);
        x.ask(0, NONE, 0, 6);
        Check.due("refused by setting 0", x.count(7), 1);
        x.askSum(0, NONE, 0, 10);
        Check.due("a sum", x.count(7), 1);
        x.ask(1, NONE, 0, 10);
        Check.due("another asker", x.count(7), 1);
        x.ask(0, NONE, 0, 10);
        Check.due("one more", x.count(7), 2);
        x.set(1, 9);
        x.ask(0, NONE, 0, 7);
        Check.due("one less, told as 0", x.count(7), 3);
        x.forget(0);
        Check.due("forgotten, but given away all the same", x.count(7), 3);
        Check.due("answers so far", x.count(5), 9);
        Check.due("refused so far", x.count(6), 2);
        x.undo();
        x.undo();
        Check.due("undone", x.count(7), 2);
    }
}
