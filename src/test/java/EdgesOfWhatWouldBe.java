import java.math.BigInteger;

/** The sentences of promises 22 to 27: ifAsked, hides, blindest, needed, openness, digest. */
final class EdgesOfWhatWouldBe {
    private static final int NONE = RowVeils.NONE;

    private EdgesOfWhatWouldBe() {
    }

    static void all(Edges e) {
        ifAsked(e);
        hides(e);
        e.under("Promise 24: blindest");
        e.plain("`int blindest()`: Finds the asker from whom most is veiled.");
        e.test("Returns the person who sees the fewest rows, of several the lowest.", EdgesOfWhatWouldBe::blindest);
        needed(e);
        e.under("Promise 26: openness");
        e.plain("`double openness()`: Returns how much is seen.");
        e.test("Returns the pairs of a person and a row that are not veiled", EdgesOfWhatWouldBe::openness);
        e.under("Promise 27: digest");
        e.test("`long digest()`: Computes a hash of the whole state.", EdgesOfWhatWouldBe::wholeState);
        e.test("The hash starts at 3469.", EdgesOfWhatWouldBe::newDigest);
        e.test("For each value v of the following list", EdgesOfWhatWouldBe::overflow);
        e.test("The values are: count(0) to count(9)", EdgesOfWhatWouldBe::listOfValues);
        e.plain("Returns the hash.");
    }

    // ---- Promise 22

    private static void ifAsked(Edges e) {
        e.under("Promise 22: ifAsked");
        e.plain("`int ifAsked(");
        e.test("- `asker`: 0 to 4", () -> forEach(
                what -> Edges.range("asker", 0, 4, Edges.INDEX, (x, n) -> x.ifAsked(n, 0, 0, 99, what))));
        e.test("- `place`: 0 to 3; NONE for all places", () -> forEach(
                what -> Edges.range("place", NONE, 3, Edges.INDEX, (x, n) -> x.ifAsked(1, n, 0, 99, what))));
        e.test("- `least`: 0 to 99", () -> forEach(
                what -> Edges.range("least", 0, 99, Edges.ARGUMENT, (x, n) -> x.ifAsked(1, 0, n, 99, what))));
        e.test("- `greatest`: least to 99", () -> forEach(what -> {
            for (int least : new int[] {0, 50, 99}) {
                Edges.range("greatest behind " + least, least, 99, Edges.ARGUMENT,
                        (x, n) -> x.ifAsked(1, 0, least, n, what));
            }
        }));
        e.test("- `what`: 0: the count, as ask() would return it;", EdgesOfWhatWouldBe::ifAskedEach);
        e.plain("Returns the number.");
        e.test("Throws `IndexOutOfBoundsException` if there is no such asker or place", () -> {
            Edges.refused(Edges.INDEX, "no asker", Edges::busy, x -> x.ifAsked(5, 0, 0, 99, 3));
            Edges.refused(Edges.INDEX, "asker NONE", Edges::busy, x -> x.ifAsked(NONE, NONE, 0, 99, 3));
            Edges.refused(Edges.INDEX, "no place", Edges::busy, x -> x.ifAsked(0, 4, 0, 99, 3));
            Edges.refused(Edges.INDEX, "place -2", Edges::busy, x -> x.ifAsked(0, -2, 0, 99, 0));
            Edges.refused(Edges.INDEX, "nothing right", Edges::busy, x -> x.ifAsked(-2, 5, 100, -1, 4));
        });
        e.test("Throws `IllegalArgumentException` if least or greatest is out of range, or what is not 0 to 3", () -> {
            Edges.range("what", 0, 3, Edges.ARGUMENT, (x, n) -> x.ifAsked(4, 3, 0, 99, n));
            forEach(what -> {
                Edges.refused(Edges.ARGUMENT, "least -1", Edges::busy, x -> x.ifAsked(4, 3, -1, 99, what));
                Edges.refused(Edges.ARGUMENT, "greatest 100", Edges::busy, x -> x.ifAsked(4, 3, 0, 100, what));
                Edges.refused(Edges.ARGUMENT, "greatest below least", Edges::busy, x -> x.ifAsked(4, 3, 1, 0, what));
            });
        });
    }

    private interface What {
        void of(int what);
    }

    private static void forEach(What test) {
        for (int what = 0; what < 4; what++) {
            test.of(what);
        }
    }

    private static void ifAskedEach() {
        RowVeils x = Edges.sixteen();
        x.change(15, 99);
        x.set(0, 3);
        x.set(1, 4);
        x.ask(1, NONE, 0, 4);
        int[][] rangesAndAnswers = {{0, 4, 4, 10, 0, 5}, {0, 5, 4, 15, 1, 6}, {0, 3, 4, 6, 1, 4}, {0, 2, 0, NONE, 0, 3},
            {0, 1, NONE, NONE, 0, 2}, {14, 99, NONE, NONE, 0, 2}, {99, 99, 0, 0, 0, 1}, {50, 60, 0, 0, 0, 0},
            {0, 99, 12, 105, 0, 16}};
        for (int setting = 0; setting <= 1; setting++) {
            x.set(2, setting);
            for (int[] t : rangesAndAnswers) {
                String range = t[0] + " to " + t[1];
                int count = setting == 1 && t[4] == 1 ? NONE : t[2];
                Check.due("count of " + range, x.ifAsked(1, NONE, t[0], t[1], 0), count);
                Check.due("sum of " + range, x.ifAsked(1, NONE, t[0], t[1], 1), t[3]);
                Check.due("given away by " + range, x.ifAsked(1, NONE, t[0], t[1], 2), t[4]);
                Check.due("all of " + range, x.ifAsked(1, NONE, t[0], t[1], 3), t[5]);
                Check.due("ask of " + range, x.ask(1, NONE, t[0], t[1]), count);
                x.undo();
                Check.due("askSum of " + range, x.askSum(1, NONE, t[0], t[1]), t[3]);
                x.undo();
            }
        }
        x.set(0, 9);
        Check.due("too few, but it would give away", x.ifAsked(1, NONE, 0, 5, 2), 1);
    }

    // ---- Promise 23

    private static void hides(Edges e) {
        e.under("Promise 23: hides");
        e.plain("`int hides(int rule)");
        e.test("- `rule`: 0 to 3", () -> Edges.range("rule", 0, 3, Edges.INDEX, (x, n) -> x.hides(n)));
        e.test("Returns how many pairs of a person and a row are veiled by it alone; 0 if it is not in force.",
                EdgesOfWhatWouldBe::hidesAlone);
        e.test("Throws `IndexOutOfBoundsException` if there is no such rule", () -> {
            Edges.refused(Edges.INDEX, "below", Edges::busy, x -> x.hides(-1));
            Edges.refused(Edges.INDEX, "above", Edges::busy, x -> x.hides(4));
            Edges.refused(Edges.INDEX, "as a shift would wrap", Edges::busy, x -> x.hides(32));
        });
    }

    private static void dueHides(RowVeils x, String name, int... want) {
        for (int rule = 0; rule < 4; rule++) {
            Check.due(name + ": hides(" + rule + ")", x.hides(rule), want[rule]);
        }
    }

    private static void hidesAlone() {
        dueHides(new RowVeils(), "without rows", 0, 0, 0, 0);
        dueHides(Edges.sixteen(), "nothing veiled", 0, 0, 0, 0);
        RowVeils x = new RowVeils();
        for (int i = 0; i < 16; i++) {
            x.row(0, 1, 99, 3);
        }
        x.master(0, 1);
        x.master(1, 2);
        dueHides(x, "never alone", 0, 0, 0, 0);
        for (int rule = 0; rule < 4; rule++) {
            for (int k = 0; k < 4; k++) {
                x.force(k, k == rule);
            }
            int[] want = new int[4];
            want[rule] = rule == 3 ? 32 : 64;
            dueHides(x, "always alone", want);
        }
        x.force(3, false);
        dueHides(x, "none in force", 0, 0, 0, 0);
        dueHides(Edges.busy(), "of a busy one", 5, 0, 0, 0);
        RowVeils y = new RowVeils();
        Check.add(y, "0n5!!!,0e5!!!,0n95");
        y.person(1, 3, 0);
        y.person(2, 3, 1);
        y.master(0, 1);
        y.master(1, 2);
        dueHides(y, "by the masters alone, at home", 2, 0, 4, 2);
        y.force(3, false);
        dueHides(y, "by the place alone", 2, 2, 4, 0);
    }

    // ---- Promise 24

    private static void blindest() {
        Check.due("without rows", new RowVeils().blindest(), 0);
        Check.due("nothing veiled", Edges.sixteen().blindest(), 0);
        for (int most = 0; most < 32; most++) {
            RowVeils x = new RowVeils();
            int want = 0;
            for (int person = 4; person >= 0; person--) {
                if ((most >> person & 1) == 1) {
                    x.row(person, 0, 90, 0);
                } else {
                    want = person;
                }
            }
            Check.due("who sees none, or the lowest: " + most, x.blindest(), most == 31 ? 0 : want);
        }
        RowVeils y = Edges.sixteen();
        y.change(15, 90);
        Check.due("one less than the owner", y.blindest(), 1);
        y.change(15, 89);
        Check.due("all alike again", y.blindest(), 0);
    }

    // ---- Promise 25

    private static void needed(Edges e) {
        e.under("Promise 25: needed");
        e.plain("`int needed(int asker, int place)");
        e.test("- `asker`: 0 to 4", () -> Edges.range("asker", 0, 4, Edges.INDEX, (x, n) -> x.needed(n, 0)));
        e.test("- `place`: 0 to 3; NONE for all places",
                () -> Edges.range("place", NONE, 3, Edges.INDEX, (x, n) -> x.needed(0, n)));
        e.test("Returns the least coarseness, 1 to 9, with which the count of all values", EdgesOfWhatWouldBe::coarseness);
        e.test("Throws `IndexOutOfBoundsException` if there is no such asker or place", () -> {
            Edges.refused(Edges.INDEX, "no asker", Edges::busy, x -> x.needed(5, NONE));
            Edges.refused(Edges.INDEX, "asker NONE", Edges::busy, x -> x.needed(NONE, NONE));
            Edges.refused(Edges.INDEX, "no place", Edges::busy, x -> x.needed(0, 4));
            Edges.refused(Edges.INDEX, "place -2", Edges::busy, x -> x.needed(0, -2));
        });
    }

    private static int neededFor(int seen, int all) {
        RowVeils x = new RowVeils();
        x.row(0, 3, 5, 0);
        for (int i = 0; i < all; i++) {
            x.row(0, 2, i < seen ? 89 : 90, 0);
        }
        return x.needed(1, 2);
    }

    private static void coarseness() {
        int[][] seenAllNeeded = {{0, 0, 1}, {1, 1, 1}, {15, 15, 1}, {0, 1, 2}, {1, 2, 3}, {2, 3, 2}, {0, 2, 3}, {7, 8, 3},
            {0, 7, 8}, {0, 8, 9}, {0, 9, NONE}, {1, 9, NONE}, {7, 9, 5}, {8, 9, 2}, {9, 10, 3}, {9, 15, 8}, {9, 14, 8},
            {8, 15, 8}, {8, 14, 8}, {7, 15, NONE}, {9, 13, 7}, {10, 14, 5}, {14, 15, 2}, {0, 15, NONE}};
        for (int[] t : seenAllNeeded) {
            Check.due(t[0] + " of " + t[1], neededFor(t[0], t[1]), needs(t));
        }
        RowVeils x = new RowVeils();
        for (int i = 0; i < 16; i++) {
            x.row(0, i % 4, i < 4 ? 99 : 0, 0);
        }
        Check.due("3 of 4 of a place", x.needed(1, 0), 3);
        Check.due("12 of 16", x.needed(1, NONE), 6);
        Check.due("all, for the owner", x.needed(0, NONE), 1);
        x.set(0, 9);
        x.set(1, 9);
        x.ask(1, 0, 0, 98);
        x.set(2, 1);
        Check.due("3 of 4, whatever the settings are", x.needed(1, 0), 3);
    }

    /** Looks for the table's own errors: the least coarseness, by counting down to a multiple. */
    private static int needs(int[] seenAllNeeded) {
        int seen = seenAllNeeded[0];
        int all = seenAllNeeded[1];
        int found = NONE;
        for (int coarse = 9; coarse >= 1; coarse--) {
            int multiple = 0;
            while (multiple + coarse <= all) {
                multiple += coarse;
            }
            if (multiple <= seen) {
                found = coarse;
            }
        }
        Check.due("the table: " + seen + " of " + all, seenAllNeeded[2], found);
        return found;
    }

    // ---- Promise 26

    private static void openness() {
        Check.dueShare("without rows", new RowVeils().openness(), 1.0);
        Check.dueShare("nothing veiled", Edges.sixteen().openness(), 1.0);
        for (int rows = 1; rows <= 16; rows++) {
            RowVeils x = new RowVeils();
            for (int i = 0; i < rows; i++) {
                x.row(i % 5, 0, 99, 0);
            }
            Check.dueShare("to owners alone", x.openness(), 1.0 / 5.0);
            for (int seen = 1; seen <= rows; seen++) {
                x.change(seen - 1, 0);
                Check.dueShare(seen + " of " + rows, x.openness(), (rows + 4.0 * seen) / (5.0 * rows));
            }
        }
        Check.dueShare("of a busy one", Edges.busy().openness(), 26.0 / 35.0);
        RowVeils y = Edges.sixteen();
        for (int i = 0; i < 16; i++) {
            y.drop(0);
        }
        Check.dueShare("without rows again", y.openness(), 1.0);
    }

    // ---- Promise 27

    private static void dueOther(String name, Edges.On call) {
        RowVeils x = Edges.busyWithSaved(6);
        long before = x.digest();
        call.call(x);
        Check.due("the digest tells of " + name, x.digest() == before ? 0 : 1, 1);
    }

    private static void wholeState() {
        dueOther("a row", x -> x.row(0, 0, 0, 0));
        dueOther("a dropped row", x -> x.drop(6));
        dueOther("a value", x -> x.change(0, 11));
        dueOther("a rank", x -> x.person(4, 1, 0));
        dueOther("a home", x -> x.person(4, 0, 1));
        dueOther("a master", x -> x.master(4, 0));
        dueOther("a rule", x -> x.force(3, false));
        dueOther("a least count", x -> x.set(0, 3));
        dueOther("a coarseness", x -> x.set(1, 3));
        dueOther("differences", x -> x.set(2, 0));
        dueOther("a question", x -> x.ask(4, 2, 0, 5));
        dueOther("a refused question", x -> x.ask(0, 0, 0, 99));
        dueOther("a sum", x -> x.askSum(4, 2, 0, 5));
        dueOther("what is forgotten", x -> x.forget(4));
        dueOther("a character", x -> x.append('0'));
        dueOther("a cleared buffer", RowVeils::clearBuffer);
        dueOther("an undo", RowVeils::undo);
        RowVeils x = Edges.busy();
        Check.due("the same twice", x.digest(), x.digest());
        Check.due("the same for two alike", x.digest(), Edges.busy().digest());
    }

    private static BigInteger hash(String list) {
        BigInteger hash = BigInteger.valueOf(3469);
        for (String value : list.trim().split("\\s+")) {
            hash = hash.multiply(BigInteger.valueOf(31)).add(new BigInteger(value));
        }
        return hash;
    }

    private static String newOnes(String bits) {
        String counts = "0 15 1 1 0 0 0 0 0 0 ";
        String person = "0 0 -1 0 0 0 0 0  0 0 0 0  1 ";
        return counts + person.repeat(5) + "0 0 0 0  0 " + bits + " ";
    }

    /** The list is written out here by hand: 4607182418800017408 are the bits of 1.0. */
    private static void newDigest() {
        long want = hash(newOnes("4607182418800017408") + "0").longValue();
        Check.due("digest of a new one", new RowVeils().digest(), want);
    }

    private static void overflow() {
        BigInteger hash = hash(newOnes("4607182418800017408") + "3 48 110 126");
        Check.due("the list's hash is beyond a long", hash.bitLength() > 64 ? 1 : 0, 1);
        RowVeils x = new RowVeils();
        Check.type(x, "0n~");
        Check.due("digest", x.digest(), hash.longValue());
    }

    private static void listOfValues() {
        RowVeils x = new RowVeils();
        x.row(1, 2, 30, 1);
        x.row(2, 0, 90, 0);
        x.person(1, 1, 3);
        x.master(2, 1);
        x.set(0, 2);
        x.ask(1, NONE, 60, 70);
        x.ask(0, 0, 0, 99);
        x.ask(1, NONE, 0, 99);
        x.append('!');
        String counts = "2 15 2 1 0  3 1 0 8 6 ";
        String rows = "1 2 30 1 2  2 0 90 0 4 ";
        String people = "0 0 -1 0 0 1 1 0  0  0 0 0 2  3 "
                + "1 3 -1 1 1 1 2 1  0  -1 -1 1 2  3 "
                + "0 0 1 1 2 0 0 0  -1 -1 0 2  3 "
                + "0 0 -1 0 0 0 0 0  0 0 0 2  3 "
                + "0 0 -1 0 0 0 0 0  0 0 0 2  3 ";
        String hides = "4 0 4 0 ";
        String rest = "0 " + Double.doubleToLongBits(0.2) + " 1 33";
        Check.due("digest", x.digest(), hash(counts + rows + people + hides + rest).longValue());
        RowVeils y = Edges.busyAndFull();
        Check.due("digest of a full one", y.digest(), Check.digestOf(y, "0n5!,".repeat(12)));
    }
}
