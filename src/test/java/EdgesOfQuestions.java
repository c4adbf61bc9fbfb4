/** The sentences of promises 9 to 11: ask, askSum, forget. */
final class EdgesOfQuestions {
    private static final int NONE = RowVeils.NONE;

    /** ask or askSum, whose arguments are alike. */
    private interface Question {
        int asked(RowVeils x, int asker, int place, int least, int greatest);
    }

    private EdgesOfQuestions() {
    }

    static void all(Edges e) {
        e.under("Promise 9: ask");
        e.test("`int ask(int asker", EdgesOfQuestions::ask);
        e.test("It is remembered, and counted.", EdgesOfQuestions::askRemembered);
        e.test("Undoable.", () -> {
            Edges.undoable("ask", x -> x.ask(2, NONE, 0, 99));
            Edges.undoable("ask, of what gives away", x -> x.ask(1, NONE, 20, 99));
            Edges.undoable("ask, of no rows", x -> x.ask(0, NONE, 98, 99));
        });
        arguments(e, RowVeils::ask);
        e.test("Returns the count, made coarse; NONE if it is refused.", EdgesOfQuestions::askAnswers);
        wrong(e, RowVeils::ask);

        e.under("Promise 10: askSum");
        e.test("`int askSum(int asker", EdgesOfQuestions::askSum);
        e.test("It is counted, but not remembered; differences are not looked for.", EdgesOfQuestions::askSumCounted);
        e.test("Undoable.", () -> {
            Edges.undoable("askSum", x -> x.askSum(1, NONE, 0, 99));
            Edges.undoable("askSum, refused", x -> x.askSum(3, 3, 0, 99));
        });
        arguments(e, RowVeils::askSum);
        e.test("Returns the sum; NONE if it is refused.", EdgesOfQuestions::askSumAnswers);
        wrong(e, RowVeils::askSum);

        e.under("Promise 11: forget");
        e.test("`int forget(int asker)", EdgesOfQuestions::forget);
        e.test("Undoable.", () -> {
            Edges.undoable("forget", x -> x.forget(1));
            Edges.undoable("forget of nothing", x -> x.forget(2));
        });
        e.test("- `asker`: 0 to 4", () -> Edges.range("asker", 0, 4, Edges.INDEX, (x, n) -> x.forget(n)));
        e.test("Returns how many there were.", EdgesOfQuestions::forgetAnswers);
        e.test("Throws `IndexOutOfBoundsException` if there is no such asker", () -> {
            Edges.refused(Edges.INDEX, "below", Edges::busy, x -> x.forget(NONE));
            Edges.refused(Edges.INDEX, "above", Edges::busy, x -> x.forget(5));
        });
    }

    private static void arguments(Edges e, Question q) {
        e.test("- `asker`: 0 to 4", () -> {
            Edges.range("asker", 0, 4, Edges.INDEX, (x, n) -> q.asked(x, n, NONE, 0, 99));
            for (int asker = 0; asker < 5; asker++) {
                RowVeils x = Edges.sixteen();
                q.asked(x, asker, NONE, 0, 99);
                Check.due("answers of " + asker, x.personOf(asker, 6), 1);
                Check.due("answers of all", x.count(5), 1);
            }
        });
        e.test("- `place`: 0 to 3; NONE for all places",
                () -> Edges.range("place", NONE, 3, Edges.INDEX, (x, n) -> q.asked(x, 0, n, 0, 99)));
        e.test("- `least`: 0 to 99",
                () -> Edges.range("least", 0, 99, Edges.ARGUMENT, (x, n) -> q.asked(x, 0, 0, n, 99)));
        e.test("- `greatest`: least to 99", () -> {
            for (int least : new int[] {0, 1, 50, 98, 99}) {
                Edges.range("greatest behind " + least, least, 99, Edges.ARGUMENT,
                        (x, n) -> q.asked(x, 0, 0, least, n));
            }
        });
    }

    private static void wrong(Edges e, Question q) {
        e.test("Throws `IndexOutOfBoundsException` if there is no such asker or place", () -> {
            Edges.refused(Edges.INDEX, "no asker", Edges::busy, x -> q.asked(x, 5, 0, 0, 99));
            Edges.refused(Edges.INDEX, "asker NONE", Edges::busy, x -> q.asked(x, NONE, NONE, 0, 99));
            Edges.refused(Edges.INDEX, "no place", Edges::busy, x -> q.asked(x, 0, 4, 0, 99));
            Edges.refused(Edges.INDEX, "place -2", Edges::busy, x -> q.asked(x, 0, -2, 0, 99));
            Edges.refused(Edges.INDEX, "nothing right", Edges::busy, x -> q.asked(x, -2, 5, 100, -1));
        });
        e.test("Throws `IllegalArgumentException` if least or greatest is out of range", () -> {
            Edges.refused(Edges.ARGUMENT, "least -1", Edges::busy, x -> q.asked(x, 4, 3, -1, 99));
            Edges.refused(Edges.ARGUMENT, "least 100", Edges::busy, x -> q.asked(x, 4, 3, 100, 100));
            Edges.refused(Edges.ARGUMENT, "greatest 100", Edges::busy, x -> q.asked(x, 4, 3, 0, 100));
            Edges.refused(Edges.ARGUMENT, "greatest -1", Edges::busy, x -> q.asked(x, 4, 3, 0, -1));
            Edges.refused(Edges.ARGUMENT, "both below", Edges::busy, x -> q.asked(x, 0, NONE, -5, -5));
            Edges.refused(Edges.ARGUMENT, "greatest below least by 1", Edges::busy, x -> q.asked(x, 0, NONE, 50, 49));
        });
    }

    // ---- Promise 9

    private static void ask() {
        RowVeils x = Edges.sixteen();
        Check.due("all", x.ask(0, NONE, 0, 99), 16);
        for (int place = 0; place < 4; place++) {
            Check.due("of place " + place, x.ask(0, place, 0, 99), 4);
        }
        Check.due("values of a place", x.ask(0, 3, 3, 11), 3);
        Check.due("values of a place, one less", x.ask(0, 3, 4, 11), 2);
        Check.due("values of a place, one less above", x.ask(0, 3, 3, 10), 2);
        Check.due("nothing there", x.ask(0, 3, 12, 14), 0);
        Check.due("of none at all", new RowVeils().ask(0, 0, 0, 0), 0);
    }

    private static void askRemembered() {
        RowVeils x = Edges.sixteen();
        x.ask(3, 2, 0, 9);
        Check.due("remembered", x.remembered(3, 0), 0x44);
        Check.due("how many", x.personOf(3, 5), 1);
        Check.due("answers of 3", x.personOf(3, 6), 1);
        Check.due("refused of 3", x.personOf(3, 7), 0);
        Check.due("answers", x.count(5), 1);
        Check.due("refused", x.count(6), 0);
        x.set(0, 4);
        x.ask(3, 2, 0, 9);
        Check.due("refused: remembered", x.personOf(3, 5), 1);
        Check.due("refused: answers of 3", x.personOf(3, 6), 2);
        Check.due("refused: refused of 3", x.personOf(3, 7), 1);
        Check.due("refused: answers", x.count(5), 2);
        Check.due("refused: refused", x.count(6), 1);
        Check.due("of the others", x.personOf(2, 6) + x.personOf(4, 6) + x.personOf(2, 7) + x.personOf(4, 7), 0);
    }

    private static void askAnswers() {
        RowVeils x = Edges.sixteen();
        x.set(0, 4);
        x.set(1, 4);
        Check.due("none", x.ask(0, NONE, 90, 99), 0);
        Check.due("3 of 4", x.ask(0, NONE, 0, 2), NONE);
        Check.due("4 of 4", x.ask(0, NONE, 0, 3), 4);
        Check.due("5 by 4", x.ask(0, NONE, 0, 4), 4);
        Check.due("7 by 4", x.ask(0, NONE, 0, 6), 4);
        Check.due("8 by 4", x.ask(0, NONE, 0, 7), 8);
        Check.due("16 by 4", x.ask(0, NONE, 0, 15), 16);
        x.set(1, 9);
        Check.due("8 by 9 is 0, and not refused", x.ask(0, NONE, 0, 7), 0);
        Check.due("remembered all the same", x.personOf(0, 5), 6);
        Check.due("refused", x.count(6), 1);
    }

    // ---- Promise 10

    private static void askSum() {
        RowVeils x = Edges.sixteen();
        Check.due("all", x.askSum(0, NONE, 0, 99), 120);
        int[] ofPlace = {24, 28, 32, 36};
        for (int place = 0; place < 4; place++) {
            Check.due("of place " + place, x.askSum(0, place, 0, 99), ofPlace[place]);
        }
        Check.due("values of a place", x.askSum(0, 3, 3, 11), NONE);
        Check.due("values", x.askSum(0, NONE, 4, 6), 15);
        Check.due("0 alone", x.askSum(0, NONE, 0, 0), 0);
        Check.due("1 alone", x.askSum(0, NONE, 1, 1), NONE);
        Check.due("0 to 2", x.askSum(0, NONE, 0, 2), NONE);
        Check.due("0 to 3: twice the greatest is the sum", x.askSum(0, NONE, 0, 3), 6);
        Check.due("nothing there", x.askSum(0, NONE, 16, 99), 0);
    }

    private static void askSumCounted() {
        RowVeils x = Edges.sixteen();
        x.askSum(2, NONE, 0, 99);
        x.askSum(2, NONE, 15, 15);
        Check.due("answers of 2", x.personOf(2, 6), 2);
        Check.due("refused of 2", x.personOf(2, 7), 1);
        Check.due("answers", x.count(5), 2);
        Check.due("refused", x.count(6), 1);
        Check.due("remembered", x.personOf(2, 5), 0);
        Check.due("nothing near it", x.ifAsked(2, NONE, 0, 14, 2), 0);
        x.ask(2, NONE, 0, 15);
        x.askSum(2, NONE, 0, 14);
        Check.due("given away", x.count(7), 0);
        x.set(2, 1);
        Check.due("though one row less", x.askSum(2, NONE, 0, 14), 105);
        Check.due("the count is refused", x.ask(2, NONE, 0, 14), NONE);
        for (int i = 0; i < 7; i++) {
            x.askSum(2, NONE, 0, 15);
        }
        Check.due("what is remembered stays", x.remembered(2, 0), 0xFFFF);
    }

    private static void askSumAnswers() {
        RowVeils x = Edges.sixteen();
        x.set(1, 9);
        Check.due("not made coarse", x.askSum(0, NONE, 0, 4), 10);
        x.set(0, 5);
        Check.due("5 of 5", x.askSum(0, NONE, 0, 4), 10);
        x.set(0, 6);
        Check.due("5 of 6", x.askSum(0, NONE, 0, 4), NONE);
        Check.due("none of 6", x.askSum(0, NONE, 60, 61), 0);
        x.change(15, 99);
        Check.due("the greatest is too great, all others being there", x.askSum(0, NONE, 7, 99), NONE);
        Check.due("just not too great", x.askSum(0, NONE, 3, 99), 201);
        Check.due("just not too great, by one row of 3 only", x.askSum(0, NONE, 4, 99), 198);
        Check.due("too great without a row of 4", x.askSum(0, NONE, 5, 99), NONE);
    }

    // ---- Promise 11

    private static void forget() {
        RowVeils x = Edges.sixteen();
        for (int asker = 0; asker < 5; asker++) {
            for (int i = 0; i <= 6; i++) {
                x.ask(asker, NONE, i, 15);
            }
        }
        x.forget(2);
        for (int asker = 0; asker < 5; asker++) {
            for (int place = 0; place < 6; place++) {
                int want = asker == 2 ? NONE : 0xFFFF & -1 << place + 1;
                Check.due("remembered(" + asker + ", " + place + ")", x.remembered(asker, place), want);
            }
            Check.due("answers of " + asker, x.personOf(asker, 6), 7);
        }
        int givenAway = x.count(7);
        Check.due("given away before", givenAway, 30);
        x.ask(2, NONE, 0, 14);
        Check.due("nothing is near what is forgotten", x.count(7), 30);
        Check.due("remembered anew", x.remembered(2, 0), 0x7FFF);
        Check.due("and that alone", x.remembered(2, 1), NONE);
    }

    private static void forgetAnswers() {
        for (int many = 0; many <= 8; many++) {
            RowVeils x = Edges.sixteen();
            for (int i = 0; i < many; i++) {
                x.ask(4, NONE, i, 15);
            }
            Check.due("forget after " + many, x.forget(4), Math.min(many, 6));
            Check.due("forget again", x.forget(4), 0);
            x.undo();
            x.undo();
            Check.due("forget after undos", x.forget(4), Math.min(many, 6));
        }
    }
}
