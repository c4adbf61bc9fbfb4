import java.util.function.Supplier;

/** The sentences of "What it is" and "Terms". */
final class EdgesOfTerms {
    private static final int NONE = RowVeils.NONE;

    private EdgesOfTerms() {
    }

    static void all(Edges e) {
        e.under("What it is");
        e.plain("Veils over rows by who asks");
        e.test("An object is used for at most 512 calls", EdgesOfTerms::calls512);
        e.under("Terms");
        e.test("All numbers are integers, but for a share; divisions are rounded down.", EdgesOfTerms::divisions);
        e.under("Rows");
        e.test("There are at most 16 rows, numbered from 0", EdgesOfTerms::atMost16Rows);
        e.test("A row has an owner, 0 to 4, a place, 0 to 3, a value, 0 to 99, and a secrecy", EdgesOfTerms::rowEnds);
        e.test("There are 5 people, numbered from 0", EdgesOfTerms::people);
        e.under("Veils");
        e.test("There are 4 rules, each in force, or not (at first all are).", EdgesOfTerms::fourRules);
        e.test("A row is veiled from an asker by a rule that is in force:", EdgesOfTerms::inForce);
        e.test("0, if its secrecy is greater than the asker's rank;", EdgesOfTerms::ruleOfRank);
        e.test("1, if its place is not the asker's home, and its secrecy is 2 or 3;", EdgesOfTerms::ruleOfHome);
        e.test("2, if its owner is not the asker, and its value is 90 or more;", EdgesOfTerms::ruleOfValue);
        e.test("3, if its secrecy is 3, and the asker is the master of its owner", EdgesOfTerms::ruleOfMaster);
        e.test("A row of the asker's own is never veiled.", EdgesOfTerms::ownNever);
        e.test("An asker sees the rows that are veiled by no rule.", EdgesOfTerms::seesUnveiled);
        e.under("Questions");
        e.test("A question is for rows of a place, or of all places (NONE)", EdgesOfTerms::questionEnds);
        e.test("Its rows are those of these that the asker sees.", EdgesOfTerms::questionRows);
        e.test("The count of a question is how many rows it has", EdgesOfTerms::leastCount);
        e.test("Otherwise, what is told is the count made coarse", EdgesOfTerms::coarse);
        e.test("The sum of a question is that of the values of its rows", EdgesOfTerms::sum);
        e.test("The latest 6 questions of each asker", EdgesOfTerms::latestSix);
        e.test("An answer would give a row away", EdgesOfTerms::givesAway);
        e.test("It is refused then, too, if setting 2 is 1.", EdgesOfTerms::refusedThen);
        e.test("(Refused answers are not remembered.)", EdgesOfTerms::refusedNotRemembered);
        e.under("Settings");
        e.test("0: the least count, 1 to 9, at first 1;", EdgesOfTerms::settings);
        e.under("Input text");
        e.test("The buffer has at most 60 characters.", EdgesOfTerms::atMost60);
        e.test("Rows as a text are one or more parts with", EdgesOfTerms::grammar);
        e.test("The buffer is read from left to right; a character is a syntax error", EdgesOfTerms::syntaxErrors);
        e.under("Undo");
        e.test("Each method that is marked \"undoable\"", EdgesOfTerms::undoables);
        e.test("At most 6 states are saved; the oldest one is dropped first.", EdgesOfTerms::atMost6);
        e.under("Exceptions");
        e.test("A call that throws an exception changes nothing.", EdgesOfTerms::thrownChangesNothing);
        e.test("If several exceptions apply, the one that is named first", EdgesOfTerms::firstNamed);
        e.test("The constants: `NONE = -1`: There is nothing to return.", EdgesOfTerms::none);
        e.plain("Ahead of the calls `row`, `drop`");
        e.plain("Ahead of the calls `ask`, `askSum`");
        e.plain("Ahead of the calls `append`, `clearBuffer`");
        e.test("Ahead of the calls `rowOf`, `personOf`", EdgesOfTerms::looksChangeNothing);
        e.test("Ahead of the calls `ifAsked`, `hides`", EdgesOfTerms::whatWouldBeChangesNothing);
    }

    // ---- What it is, Terms

    private static void calls512() {
        RowVeils x = new RowVeils();
        for (int i = 0; i < 510; i++) {
            x.ask(i % 5, NONE, 0, 99);
        }
        Check.due("after 510 questions: answers of one", x.personOf(4, 6), 102);
        Check.due("after 510 questions: the 512th call", x.count(5), 510);
        RowVeils y = new RowVeils();
        y.row(0, 0, 0, 0);
        for (int i = 1; i <= 503; i++) {
            y.change(0, i % 100);
        }
        for (int left = 5; left >= 0; left--) {
            Check.due("after 504 changes: undo", y.undo(), left);
        }
        Check.due("after 510 calls: what the 498th call left", y.rowOf(0, 2), 97);
        Check.due("after 511 calls: saved states", y.count(9), 0);
        RowVeils z = new RowVeils();
        for (int i = 0; i < 511; i++) {
            Check.dueText("a thrown call", Check.outcome(() -> z.append(32)), "IllegalArgumentException");
        }
        Check.due("after 511 thrown calls: append", z.append(48), 1);
    }

    private static void divisions() {
        RowVeils x = Edges.sixteen();
        int[][] countCoarseTold = {{8, 9, 0}, {9, 9, 9}, {16, 9, 9}, {15, 8, 8}, {16, 8, 16}, {1, 2, 0}, {13, 7, 7}};
        for (int[] t : countCoarseTold) {
            x.set(1, t[1]);
            Check.due(t[0] + " made coarse by " + t[1], x.ask(0, NONE, 0, t[0] - 1), t[2]);
        }
        RowVeils y = new RowVeils();
        y.row(0, 0, 90, 0);
        y.row(0, 0, 90, 0);
        y.row(0, 0, 89, 0);
        Check.dueShare("a share is not rounded down", y.openness(), 7.0 / 15.0);
    }

    // ---- Rows

    private static void atMost16Rows() {
        RowVeils x = new RowVeils();
        for (int i = 0; i < 16; i++) {
            Check.due("the number of row " + i, x.row(i % 5, 0, i, 0), i);
        }
        Edges.refused(Edges.STATE, "a 17th row", Edges::sixteen, y -> y.row(0, 0, 0, 0));
        x.drop(15);
        x.drop(0);
        x.drop(7);
        int[] values = {1, 2, 3, 4, 5, 6, 7, 9, 10, 11, 12, 13, 14};
        Check.due("rows then", x.count(0), values.length);
        for (int row = 0; row < values.length; row++) {
            Check.due("the value of row " + row, x.rowOf(row, 2), values[row]);
            Check.due("the owner of row " + row, x.rowOf(row, 0), values[row] % 5);
        }
        Check.due("room again", x.row(0, 0, 50, 0), 13);
        Check.due("and again", x.row(0, 0, 51, 0), 14);
        Check.due("and at last", x.row(0, 0, 52, 0), 15);
        Check.dueState(x, "a 17th row again", () -> x.row(0, 0, 53, 0));
    }

    private static void rowEnds() {
        for (int owner = 0; owner < 5; owner++) {
            for (int place = 0; place < 4; place++) {
                RowVeils x = new RowVeils();
                for (int i = 0; i < 8; i++) {
                    int value = i < 4 ? 0 : 99;
                    x.row(owner, place, value, i % 4);
                    int[] want = {owner, place, value, i % 4};
                    for (int what = 0; what < 4; what++) {
                        Check.due("rowOf(" + i + ", " + what + ")", x.rowOf(i, what), want[what]);
                    }
                }
            }
        }
        for (int value = 0; value <= 99; value++) {
            RowVeils x = new RowVeils();
            x.row(4, 3, value, 3);
            Check.due("a value", x.rowOf(0, 2), value);
        }
    }

    private static void people() {
        RowVeils x = new RowVeils();
        int[] first = {0, 0, NONE};
        for (int person = 0; person < 5; person++) {
            for (int what = 0; what < 3; what++) {
                Check.due("personOf(" + person + ", " + what + ")", x.personOf(person, what), first[what]);
            }
        }
        Check.dueIndex(x, "a person 5", () -> x.personOf(5, 0));
        for (int person = 0; person < 5; person++) {
            for (int n = 0; n < 4; n++) {
                x.person(person, n, 3 - n);
                Check.due("rank of " + person, x.personOf(person, 0), n);
                Check.due("home of " + person, x.personOf(person, 1), 3 - n);
            }
            for (int master = NONE; master < 5; master++) {
                if (master != person) {
                    x.master(person, master);
                    Check.due("master of " + person, x.personOf(person, 2), master);
                }
            }
            int p = person;
            Check.dueArgument(x, "one's own master", () -> x.master(p, p));
        }
    }

    // ---- Veils

    private static void only(RowVeils x, int rule) {
        for (int k = 0; k < 4; k++) {
            x.force(k, k == rule);
        }
    }

    private static RowVeils one(int owner, int place, int value, int secrecy) {
        RowVeils x = new RowVeils();
        x.row(owner, place, value, secrecy);
        return x;
    }

    /** A row that each rule veils from person 1, the master of its owner 0. */
    private static RowVeils veiledByAll() {
        RowVeils x = one(0, 3, 99, 3);
        x.master(0, 1);
        return x;
    }

    private static void fourRules() {
        Check.due("at first", new RowVeils().count(1), 15);
        Check.due("veils by all at first", veiledByAll().veils(1, 0), 15);
        for (int mask = 0; mask < 16; mask++) {
            RowVeils x = new RowVeils();
            for (int rule = 0; rule < 4; rule++) {
                x.force(rule, (mask >> rule & 1) == 1);
            }
            Check.due("rules in force", x.count(1), mask);
        }
        Edges.refused(Edges.INDEX, "a fifth rule", Edges::busy, x -> x.force(4, true));
        Edges.refused(Edges.INDEX, "a fifth rule's hides", Edges::busy, x -> x.hides(4));
    }

    private static void inForce() {
        for (int mask = 0; mask < 16; mask++) {
            RowVeils x = veiledByAll();
            for (int rule = 0; rule < 4; rule++) {
                x.force(rule, (mask >> rule & 1) == 1);
            }
            Check.due("veils(1, 0)", x.veils(1, 0), mask);
            Check.due("veils(2, 0)", x.veils(2, 0), mask & 7);
            Check.due("rows that 1 sees", x.personOf(1, 3), mask == 0 ? 1 : 0);
        }
    }

    private static void ruleOfRank() {
        for (int rank = 0; rank < 4; rank++) {
            for (int secrecy = 0; secrecy < 4; secrecy++) {
                RowVeils x = one(0, 0, 5, secrecy);
                x.person(1, rank, 0);
                Check.due("secrecy " + secrecy + " at rank " + rank, x.veils(1, 0), secrecy > rank ? 1 : 0);
            }
        }
    }

    private static void ruleOfHome() {
        for (int place = 0; place < 4; place++) {
            for (int home = 0; home < 4; home++) {
                for (int secrecy = 0; secrecy < 4; secrecy++) {
                    RowVeils x = one(0, place, 5, secrecy);
                    x.person(1, 3, home);
                    int want = place != home && (secrecy == 2 || secrecy == 3) ? 2 : 0;
                    Check.due("secrecy " + secrecy + ", place " + place + ", home " + home, x.veils(1, 0), want);
                }
            }
        }
    }

    private static void ruleOfValue() {
        RowVeils x = one(2, 0, 0, 0);
        for (int value = 0; value <= 99; value++) {
            x.change(0, value);
            Check.due("value " + value, x.veils(1, 0), value >= 90 ? 4 : 0);
            Check.due("value " + value + " of one's own", x.veils(2, 0), 0);
        }
    }

    private static void ruleOfMaster() {
        for (int secrecy = 0; secrecy < 4; secrecy++) {
            RowVeils x = one(4, 0, 5, secrecy);
            only(x, 3);
            x.master(4, 2);
            x.master(2, 1);
            x.master(1, 0);
            int[] want = {0, 8, 8, 0, 0};
            for (int asker = 0; asker < 5; asker++) {
                Check.due("secrecy " + secrecy + ", asker " + asker, x.veils(asker, 0), secrecy == 3 ? want[asker] : 0);
            }
            x.master(2, NONE);
            Check.due("the master has none: the one before", x.veils(1, 0), 0);
            Check.due("the master has none: the master", x.veils(2, 0), secrecy == 3 ? 8 : 0);
            x.master(4, NONE);
            Check.due("the owner has none", x.veils(2, 0) + x.veils(1, 0), 0);
            x.master(0, 4);
            x.master(1, 4);
            Check.due("the owner as a master", x.veils(0, 0) + x.veils(1, 0), 0);
        }
        RowVeils y = one(0, 0, 5, 3);
        y.person(1, 3, 0);
        y.person(2, 3, 0);
        y.master(0, 1);
        y.master(1, 0);
        Check.due("masters of each other: the master", y.veils(1, 0), 8);
        Check.due("masters of each other: the owner", y.veils(0, 0), 0);
        Check.due("masters of each other: someone else", y.veils(2, 0), 0);
    }

    private static void ownNever() {
        for (int person = 0; person < 5; person++) {
            RowVeils x = one(person, 3, 99, 3);
            x.master(person, (person + 1) % 5);
            x.master((person + 1) % 5, person);
            Check.due("one's own row, of all secrets: " + person, x.veils(person, 0), 0);
            Check.due("the mask of those who see it", x.rowOf(0, 4), 1 << person);
            Check.due("rows that the owner sees", x.personOf(person, 4), 1);
        }
    }

    private static void seesUnveiled() {
        for (int rule = 0; rule < 4; rule++) {
            RowVeils x = veiledByAll();
            only(x, rule);
            Check.due("veiled by rule " + rule + " alone: rows", x.personOf(1, 3), 0);
            Check.due("veiled by rule " + rule + " alone: who sees it", x.rowOf(0, 4) & 2, 0);
            x.force(rule, false);
            Check.due("veiled by none: rows", x.personOf(1, 3), 1);
            Check.due("veiled by none: who sees it", x.rowOf(0, 4), 31);
        }
        RowVeils y = Edges.sixteen();
        Check.due("all sixteen", y.personOf(4, 4), 0xFFFF);
        y.change(15, 90);
        y.change(0, 90);
        Check.due("but the first and the last", y.personOf(4, 4), 0x7FFE);
        Check.due("the owner sees all", y.personOf(0, 4), 0xFFFF);
    }

    // ---- Questions

    private static void questionEnds() {
        RowVeils x = new RowVeils();
        Check.add(x, "0n0,0n1,0e50,0s98,0w99");
        x.force(2, false);
        Check.due("all", x.ask(1, NONE, 0, 99), 5);
        Check.due("all but the least", x.ask(1, NONE, 1, 99), 4);
        Check.due("all but the greatest", x.ask(1, NONE, 0, 98), 4);
        Check.due("the least alone", x.ask(1, NONE, 0, 0), 1);
        Check.due("the greatest alone", x.ask(1, NONE, 99, 99), 1);
        Check.due("between two", x.ask(1, NONE, 51, 97), 0);
        Check.due("just at both", x.ask(1, NONE, 50, 98), 2);
        int[] ofPlace = {2, 1, 1, 1};
        for (int place = 0; place < 4; place++) {
            Check.due("of place " + place, x.ask(1, place, 0, 99), ofPlace[place]);
        }
        Check.due("of place 0, the least", x.ask(1, 0, 0, 0), 1);
        Check.due("of place 3, all but the greatest", x.ask(1, 3, 0, 98), 0);
        Check.due("without rows", new RowVeils().ask(4, NONE, 0, 99), 0);
    }

    private static void questionRows() {
        RowVeils x = new RowVeils();
        Check.add(x, "0n89,0n90,0e5!,0s5!!,0w5!!!,1n99");
        x.person(1, 1, 0);
        x.person(2, 2, 2);
        x.person(3, 3, 3);
        int[] masks = {0x1F, 0x25, 0xD, 0x15, 0x1};
        for (int asker = 0; asker < 5; asker++) {
            x.ask(asker, NONE, 0, 99);
            Check.due("rows of asker " + asker, x.remembered(asker, 0), masks[asker]);
            Check.due("count of asker " + asker, x.ifAsked(asker, NONE, 0, 99, 0), Integer.bitCount(masks[asker]));
        }
    }

    private static void leastCount() {
        RowVeils x = Edges.sixteen();
        for (int least = 1; least <= 9; least++) {
            x.set(0, least);
            Check.due("no rows at least " + least, x.ask(1, NONE, 50, 60), 0);
            for (int many = 1; many <= 16; many++) {
                int want = many < least ? NONE : many;
                Check.due(many + " rows at least " + least, x.ask(1, NONE, 0, many - 1), want);
            }
        }
    }

    private static void coarse() {
        RowVeils x = Edges.sixteen();
        for (int coarse = 1; coarse <= 9; coarse++) {
            x.set(1, coarse);
            Check.due("no rows by " + coarse, x.ask(1, NONE, 50, 60), 0);
            for (int many = 1; many <= 16; many++) {
                int want = many;
                while (want % coarse != 0) {
                    want--;
                }
                Check.due(many + " rows by " + coarse, x.ask(1, NONE, 0, many - 1), want);
            }
        }
        x.set(0, 5);
        Check.due("refused before it is made coarse", x.ask(1, NONE, 0, 3), NONE);
        Check.due("just not refused, and then coarse", x.ask(1, NONE, 0, 4), 0);
    }

    private static int sumOf(int least, int... values) {
        RowVeils x = new RowVeils();
        for (int value : values) {
            x.row(0, 0, value, 0);
        }
        x.set(0, least);
        return x.askSum(0, NONE, 0, 99);
    }

    private static void sum() {
        Check.due("no rows", sumOf(1), 0);
        Check.due("no rows, at least 9", sumOf(9), 0);
        Check.due("one of 0", sumOf(1, 0), 0);
        Check.due("one of 1", sumOf(1, 1), NONE);
        Check.due("one of 99", sumOf(1, 99), NONE);
        Check.due("0 and 1", sumOf(1, 0, 1), NONE);
        Check.due("two alike", sumOf(1, 7, 7), 14);
        Check.due("two nearly alike", sumOf(1, 7, 8), NONE);
        Check.due("twice the greatest is the sum", sumOf(1, 10, 4, 6), 20);
        Check.due("twice the greatest is more by 1", sumOf(1, 10, 4, 5), NONE);
        Check.due("twice the greatest is less by 1", sumOf(1, 10, 4, 7), 21);
        Check.due("the greatest is the last", sumOf(1, 4, 6, 10), 20);
        Check.due("the greatest is the last, and more", sumOf(1, 4, 5, 10), NONE);
        Check.due("as many as asked for", sumOf(3, 5, 5, 5), 15);
        Check.due("one less than asked for", sumOf(4, 5, 5, 5), NONE);
        Check.due("nine of nine", sumOf(9, 1, 1, 1, 1, 1, 1, 1, 1, 1), 9);
        Check.due("eight of nine", sumOf(9, 1, 1, 1, 1, 1, 1, 1, 1), NONE);
        Check.due("all of 0, too few", sumOf(3, 0, 0), NONE);
        Check.due("all of 0, enough", sumOf(2, 0, 0), 0);
        int[] most = new int[16];
        java.util.Arrays.fill(most, 99);
        Check.due("sixteen of 99", sumOf(9, most), 1584);
        RowVeils x = Edges.sixteen();
        x.change(15, 99);
        Check.due("a veiled row is in no sum", x.askSum(1, NONE, 0, 99), 105);
        Check.due("nor in the greatest value", x.askSum(1, NONE, 14, 99), NONE);
        Check.due("but in its owner's", x.askSum(0, NONE, 0, 99), 204);
    }

    private static void latestSix() {
        RowVeils x = Edges.sixteen();
        for (int i = 0; i < 9; i++) {
            x.ask(2, NONE, i, 15);
            Check.due("remembered after " + (i + 1), x.personOf(2, 5), Math.min(i + 1, 6));
        }
        for (int place = 0; place < 6; place++) {
            Check.due("of nine the " + (place + 4) + "th", x.remembered(2, place), 0xFFFF & -1 << place + 3);
        }
        Check.due("there is no seventh", x.remembered(2, 6), NONE);
        Check.due("another asker's", x.personOf(1, 5) + x.personOf(3, 5), 0);
        x.askSum(2, NONE, 0, 15);
        Check.due("a sum is not remembered", x.remembered(2, 5), 0xFF00);
        x.set(0, 9);
        x.ask(2, NONE, 15, 15);
        Check.due("a refused one is not remembered", x.remembered(2, 5), 0xFF00);
        x.drop(8);
        Check.due("a dropped row is in none", x.remembered(2, 0), 0x7FF8);
        Check.due("the rows behind it have other numbers", x.remembered(2, 5), 0x7F00);
        x.change(14, 95);
        Check.due("what is remembered stays", x.remembered(2, 5), 0x7F00);
        x.row(0, 0, 15, 0);
        Check.due("a new row is in none", x.remembered(2, 5), 0x7F00);
        x.ask(2, NONE, 50, 60);
        Check.due("a question without rows is remembered, too", x.remembered(2, 5), 0);
        Check.due("and the oldest one goes", x.remembered(2, 0), 0x7FF0);
    }

    /** The rows from one value to another one, of sixteen(). */
    private static int maskOf(int least, int greatest) {
        return (1 << greatest + 1) - (1 << least);
    }

    private static void givesAway() {
        RowVeils x = Edges.sixteen();
        int[] masks = {maskOf(0, 7), maskOf(4, 4), maskOf(5, 15), maskOf(3, 12), maskOf(15, 15), maskOf(0, 15)};
        int[][] asked = {{0, 7}, {4, 4}, {5, 15}, {3, 12}, {15, 15}, {0, 15}};
        for (int many = 0; many <= 6; many++) {
            RowVeils y = Edges.sixteen();
            for (int i = 0; i < many; i++) {
                y.ask(3, NONE, asked[i][0], asked[i][1]);
            }
            for (int least = 0; least < 16; least++) {
                for (int greatest = least; greatest < 16; greatest += 3) {
                    int want = 0;
                    for (int i = 0; i < many; i++) {
                        want |= Integer.bitCount(masks[i] ^ maskOf(least, greatest)) == 1 ? 1 : 0;
                    }
                    Check.due(least + " to " + greatest, y.ifAsked(3, NONE, least, greatest, 2), want);
                    Check.due("for another asker", y.ifAsked(2, NONE, least, greatest, 2), 0);
                }
            }
        }
        Check.due("nothing is remembered", x.ifAsked(0, NONE, 3, 3, 2), 0);
        x.ask(0, NONE, 50, 60);
        Check.due("one more than none", x.ifAsked(0, NONE, 3, 3, 2), 1);
        Check.due("two more than none", x.ifAsked(0, NONE, 3, 4, 2), 0);
        Check.due("none twice", x.ifAsked(0, NONE, 70, 80, 2), 0);
        x.ask(0, NONE, 3, 3);
        Check.due("one less than one", x.ifAsked(0, NONE, 70, 80, 2), 1);
        givesAwayOfSeven();
        givesAwayOfDropped();
    }

    private static void givesAwayOfSeven() {
        RowVeils x = Edges.sixteen();
        x.ask(0, NONE, 0, 9);
        for (int i = 0; i < 5; i++) {
            x.ask(0, NONE, 0, 1);
        }
        Check.due("near the oldest of six", x.ifAsked(0, NONE, 0, 8, 2), 1);
        x.ask(0, NONE, 0, 1);
        Check.due("near one that is no longer remembered", x.ifAsked(0, NONE, 0, 8, 2), 0);
        x.forget(0);
        Check.due("near one that is forgotten", x.ifAsked(0, NONE, 0, 2, 2), 0);
    }

    private static void givesAwayOfDropped() {
        RowVeils x = Edges.sixteen();
        x.ask(0, NONE, 0, 7);
        Check.due("two less", x.ifAsked(0, NONE, 0, 5, 2), 0);
        x.drop(7);
        Check.due("one less, for a row was dropped", x.ifAsked(0, NONE, 0, 5, 2), 1);
        Check.due("the same, for a row was dropped", x.ifAsked(0, NONE, 0, 6, 2), 0);
        x.change(0, 50);
        Check.due("one other in its place", x.ifAsked(0, NONE, 1, 8, 2), 0);
        Check.due("one less, for a value was changed", x.ifAsked(0, NONE, 0, 6, 2), 1);
        x.person(0, 3, 3);
        x.row(1, 0, 6, 3);
        Check.due("a new row that is veiled", x.ifAsked(0, NONE, 0, 6, 2), 1);
        x.force(1, false);
        Check.due("one other, for a new row is seen", x.ifAsked(0, NONE, 0, 6, 2), 0);
    }

    private static void refusedThen() {
        RowVeils x = Edges.sixteen();
        x.ask(0, NONE, 0, 7);
        Check.due("setting 2 is 0", x.ask(0, NONE, 0, 8), 9);
        x.forget(0);
        x.ask(0, NONE, 0, 7);
        x.set(2, 1);
        Check.due("setting 2 is 1, one more", x.ask(0, NONE, 0, 8), NONE);
        Check.due("setting 2 is 1, one less", x.ask(0, NONE, 1, 7), NONE);
        Check.due("setting 2 is 1, two more", x.ask(0, NONE, 0, 9), 10);
        Check.due("setting 2 is 1, the same", x.ask(0, NONE, 0, 7), 8);
        Check.due("setting 2 is 1, one more than none", x.ask(1, NONE, 50, 60) + x.ask(1, NONE, 3, 3), NONE);
        x.forget(0);
        x.ask(0, NONE, 3, 3);
        Check.due("setting 2 is 1, no rows, one less", x.ask(0, NONE, 50, 60), NONE);
        x.set(0, 2);
        Check.due("by setting 0, too", x.ask(2, NONE, 3, 3), NONE);
        x.set(2, 0);
        Check.due("no longer", x.ask(0, NONE, 50, 60), 0);
    }

    private static void refusedNotRemembered() {
        RowVeils x = Edges.sixteen();
        x.set(0, 3);
        x.ask(0, NONE, 0, 1);
        Check.due("refused by setting 0", x.personOf(0, 5), 0);
        x.ask(0, NONE, 0, 2);
        x.set(2, 1);
        x.ask(0, NONE, 0, 3);
        Check.due("refused by setting 2", x.personOf(0, 5), 1);
        Check.due("what is near it alone is not refused", x.ask(0, NONE, 0, 4), 5);
        Check.due("what was answered is remembered", x.remembered(0, 1), 0x1F);
    }

    // ---- Settings

    private static void settings() {
        int[] first = {1, 1, 0};
        int[] least = {1, 1, 0};
        int[] greatest = {9, 9, 1};
        for (int setting = 0; setting < 3; setting++) {
            int s = setting;
            Check.due("at first", new RowVeils().count(2 + s), first[s]);
            for (int value = least[s]; value <= greatest[s]; value++) {
                RowVeils x = new RowVeils();
                x.set(s, value);
                for (int other = 0; other < 3; other++) {
                    Check.due("setting " + other, x.count(2 + other), other == s ? value : first[other]);
                }
            }
            Edges.range("set(" + s + ", ..)", least[s], greatest[s], Edges.ARGUMENT, (x, n) -> x.set(s, n));
        }
    }

    // ---- Input text

    private static void atMost60() {
        RowVeils x = new RowVeils();
        for (int i = 1; i <= 60; i++) {
            Check.due("length", x.append(33 + i), i);
        }
        Edges.refused(Edges.STATE, "a 61st character", Edges::busyAndFull, y -> y.append(48));
        Check.due("they are all there", x.clearBuffer(), 60);
        Check.due("room again", x.append(48), 1);
    }

    private static String partsOf(int many, String part) {
        StringBuilder text = new StringBuilder(part);
        for (int i = 1; i < many; i++) {
            text.append(',').append(part);
        }
        return text.toString();
    }

    private static void dueOne(String text, int... numbers) {
        RowVeils x = new RowVeils();
        Check.type(x, text);
        Check.due("firstError of " + text, x.firstError(), text.length());
        Check.due("rows of " + text, x.rows(), 1);
        for (int what = 0; what < 4; what++) {
            Check.due("rowOf(0, " + what + ") of " + text, x.rowOf(0, what), numbers[what]);
        }
    }

    private static void dueWrong(String text) {
        Edges.refused(Edges.ARGUMENT, "rows of " + text, () -> {
            RowVeils x = Edges.busy();
            x.clearBuffer();
            Check.type(x, text);
            return x;
        }, RowVeils::rows);
    }

    private static void grammar() {
        String[] marks = {"", "!", "!!", "!!!"};
        for (int value = 0; value <= 99; value++) {
            int owner = value % 5;
            int place = value % 4;
            for (int secrecy = 0; secrecy < 4; secrecy++) {
                dueOne(owner + "" + "nesw".charAt(place) + value + marks[secrecy], owner, place, value, secrecy);
            }
        }
        for (int many = 1; many <= 15; many++) {
            Check.due(many + " parts", Check.add(new RowVeils(), partsOf(many, "0n5")), many);
        }
        Check.due("of the longest parts", Check.add(new RowVeils(), partsOf(7, "4w99!!!")), 7);
        String[] wrong = {"", ",", "0n5,", ",0n5", "0n5,,0n5", "0", "0n", "n5", "05", "5n5", "0x5", "0N5", "0n00", "0n05",
            "0n100", "0n-1", "0n!", "0n5!!!!", "0n5!5", "!0n5", "0n5+", "0n5;0n5", "0n50n5"};
        for (String text : wrong) {
            dueWrong(text);
        }
    }

    /** What may stand behind a beginning without an error, told by what stands at its end. */
    private static String behind(String beginning) {
        String part = beginning.substring(beginning.lastIndexOf(',') + 1);
        if (part.isEmpty()) {
            return "01234";
        }
        if (part.length() == 1) {
            return "nesw";
        }
        if (part.length() == 2) {
            return "0123456789";
        }
        String marks = part.endsWith("!!!") ? "" : "!";
        boolean isOneDigit = part.length() == 3 && part.charAt(2) != '0';
        return "," + marks + (isOneDigit ? "0123456789" : "");
    }

    private static void syntaxErrors() {
        String[] beginnings = {"", "0", "4", "0n", "1e", "2s", "3w", "0n0", "0n1", "0n9", "0n10", "0n99", "0n0!", "0n5!!",
            "0n42!!!", "0n0,", "0n5,1", "0n5!,1e", "0n5!!!,1e0", "0n5,1e7", "0n5,1e77!", partsOf(14, "0n5") + ",0n5",
            partsOf(14, "0n5") + ",0n"};
        for (String beginning : beginnings) {
            for (int code = 33; code <= 126; code++) {
                RowVeils x = new RowVeils();
                Check.type(x, beginning);
                Check.due("firstError of " + beginning, x.firstError(), beginning.length());
                x.append(code);
                boolean isRight = behind(beginning).indexOf(code) >= 0;
                int want = beginning.length() + (isRight ? 1 : 0);
                Check.due("firstError of " + beginning + (char) code, x.firstError(), want);
                if (!isRight && beginning.length() < 59) {
                    x.append('%');
                    Check.due("firstError of " + beginning + (char) code + "%", x.firstError(), want);
                }
            }
        }
        RowVeils full = new RowVeils();
        Check.type(full, partsOf(14, "0n5") + ",0n5,");
        Check.due("rows of any length: sixty characters, and more would come", full.firstError(), 60);
    }

    // ---- Undo

    private static void undoables() {
        RowVeils x = Edges.busy();
        Edges.undoable("row", y -> y.row(1, 1, 1, 1));
        Edges.undoable("change of nothing", y -> y.change(0, 10));
        Edges.undoable("person of nothing", y -> y.person(1, 2, 1));
        Edges.undoable("master of nothing", y -> y.master(0, 1));
        Edges.undoable("force of nothing", y -> y.force(1, false));
        Edges.undoable("set of nothing", y -> y.set(0, 2));
        Edges.undoable("forget of nothing", y -> y.forget(3));
        Edges.undoable("what is remembered", y -> y.ask(0, 1, 0, 99));
        Edges.undoable("what is forgotten", y -> y.forget(0));
        Edges.undoable("what is counted", y -> y.askSum(0, 1, 0, 99));
        Edges.undoable("what is refused", y -> y.ask(0, 0, 0, 99));
        Edges.undoable("what is dropped from what is remembered", y -> y.drop(0));
        x.undo();
        Check.due("the buffer is not brought back, nor taken", x.clearBuffer(), 6);
        x.undo();
        Check.due("nor is a cleared one", x.clearBuffer(), 0);
        Check.due("append saves nothing", x.append(48) + x.count(9), 1 + 4);
        Check.dueArgument(x, "a thrown call", () -> x.set(0, 10));
        Check.due("a thrown call saves nothing", x.undo(), 3);
        RowVeils z = new RowVeils();
        z.set(0, 2);
        z.set(0, 3);
        z.undo();
        Check.due("the saved states are not brought back", z.undo(), 0);
        Check.due("the first one", z.count(2), 1);
    }

    private static void atMost6() {
        RowVeils x = new RowVeils();
        for (int value = 1; value <= 9; value++) {
            x.set(0, value);
            Check.due("saved states", x.count(9), Math.min(value, 6));
        }
        for (int left = 5; left >= 0; left--) {
            Check.due("undo", x.undo(), left);
            Check.due("setting 0", x.count(2), 3 + left);
        }
        Check.dueState(x, "a seventh undo", x::undo);
        for (int value = 4; value <= 9; value++) {
            x.set(0, value);
        }
        Check.due("six again", x.count(9), 6);
        x.undo();
        x.undo();
        x.set(0, 1);
        x.set(0, 2);
        x.set(0, 5);
        int[] values = {2, 1, 7, 6, 5, 4};
        for (int i = 0; i < 6; i++) {
            Check.due("undo behind some undos", x.undo(), 5 - i);
            Check.due("setting 0 behind some undos", x.count(2), values[i]);
        }
    }

    // ---- Exceptions

    private static void thrown(String name, Supplier<RowVeils> make) {
        Edges.refused(Edges.INDEX, name + ": row", make, x -> x.row(5, 0, 0, 0));
        Edges.refused(Edges.ARGUMENT, name + ": row of value 100", make, x -> x.row(0, 0, 100, 0));
        Edges.refused(Edges.INDEX, name + ": drop", make, x -> x.drop(16));
        Edges.refused(Edges.INDEX, name + ": change", make, x -> x.change(16, 0));
        Edges.refused(Edges.INDEX, name + ": person", make, x -> x.person(5, 0, 0));
        Edges.refused(Edges.ARGUMENT, name + ": person of rank 4", make, x -> x.person(0, 4, 1));
        Edges.refused(Edges.INDEX, name + ": master", make, x -> x.master(0, 5));
        Edges.refused(Edges.ARGUMENT, name + ": master of oneself", make, x -> x.master(0, 0));
        Edges.refused(Edges.INDEX, name + ": force", make, x -> x.force(4, false));
        Edges.refused(Edges.INDEX, name + ": set", make, x -> x.set(3, 1));
        Edges.refused(Edges.ARGUMENT, name + ": set to 10", make, x -> x.set(0, 10));
        Edges.refused(Edges.INDEX, name + ": ask", make, x -> x.ask(0, 4, 0, 99));
        Edges.refused(Edges.ARGUMENT, name + ": ask from 1 to 0", make, x -> x.ask(0, 0, 1, 0));
        Edges.refused(Edges.INDEX, name + ": askSum", make, x -> x.askSum(5, 0, 0, 99));
        Edges.refused(Edges.ARGUMENT, name + ": askSum to 100", make, x -> x.askSum(0, 0, 0, 100));
        Edges.refused(Edges.INDEX, name + ": forget", make, x -> x.forget(5));
        Edges.refused(Edges.ARGUMENT, name + ": append", make, x -> x.append(127));
        Edges.refused(Edges.ARGUMENT, name + ": rows", make, RowVeils::rows);
        Edges.refused(Edges.INDEX, name + ": rowOf", make, x -> x.rowOf(16, 0));
        Edges.refused(Edges.INDEX, name + ": personOf", make, x -> x.personOf(5, 0));
        Edges.refused(Edges.ARGUMENT, name + ": personOf 8", make, x -> x.personOf(0, 8));
        Edges.refused(Edges.INDEX, name + ": veils", make, x -> x.veils(0, 16));
        Edges.refused(Edges.INDEX, name + ": remembered", make, x -> x.remembered(5, 0));
        Edges.refused(Edges.ARGUMENT, name + ": remembered -1", make, x -> x.remembered(0, -1));
        Edges.refused(Edges.ARGUMENT, name + ": count", make, x -> x.count(10));
        Edges.refused(Edges.INDEX, name + ": ifAsked", make, x -> x.ifAsked(5, 0, 0, 99, 0));
        Edges.refused(Edges.ARGUMENT, name + ": ifAsked 4", make, x -> x.ifAsked(0, 0, 0, 99, 4));
        Edges.refused(Edges.INDEX, name + ": hides", make, x -> x.hides(4));
        Edges.refused(Edges.INDEX, name + ": needed", make, x -> x.needed(0, 4));
    }

    private static void thrownChangesNothing() {
        thrown("new", RowVeils::new);
        thrown("busy", Edges::busy);
        thrown("full", Edges::busyAndFull);
        Edges.refused(Edges.STATE, "full: row", Edges::busyAndFull, x -> x.row(0, 0, 0, 0));
        Edges.refused(Edges.STATE, "full: append", Edges::busyAndFull, x -> x.append(48));
        Edges.refused(Edges.STATE, "new: undo", RowVeils::new, RowVeils::undo);
        Edges.refused(Edges.STATE, "all undone: undo", () -> Edges.busyWithSaved(0), RowVeils::undo);
        Edges.refused(Edges.ARGUMENT, "busy: change to 100", Edges::busy, x -> x.change(0, 100));
        Edges.refused(Edges.ARGUMENT, "busy: rowOf 5", Edges::busy, x -> x.rowOf(0, 5));
    }

    private static void firstNamed() {
        Supplier<RowVeils> full = Edges::busyAndFull;
        Edges.refused(Edges.INDEX, "row: all three", full, x -> x.row(5, 4, 100, 4));
        Edges.refused(Edges.INDEX, "row: the first and the third", full, x -> x.row(0, 4, 0, 0));
        Edges.refused(Edges.ARGUMENT, "row: the second and the third", full, x -> x.row(0, 0, 0, 4));
        Edges.refused(Edges.INDEX, "change", full, x -> x.change(16, 100));
        Edges.refused(Edges.INDEX, "person: who", full, x -> x.person(5, 4, 0));
        Edges.refused(Edges.INDEX, "person: home", full, x -> x.person(0, 4, 4));
        Edges.refused(Edges.INDEX, "master: 5", full, x -> x.master(5, 5));
        Edges.refused(Edges.INDEX, "master: NONE", full, x -> x.master(NONE, NONE));
        Edges.refused(Edges.INDEX, "set", full, x -> x.set(3, 0));
        Edges.refused(Edges.INDEX, "ask: who", full, x -> x.ask(5, 0, -1, 100));
        Edges.refused(Edges.INDEX, "ask: place", full, x -> x.ask(0, 4, 9, 8));
        Edges.refused(Edges.INDEX, "askSum: who", full, x -> x.askSum(-1, 0, 9, 8));
        Edges.refused(Edges.INDEX, "askSum: place", full, x -> x.askSum(0, -2, 0, 100));
        Edges.refused(Edges.ARGUMENT, "append", full, x -> x.append(32));
        Edges.refused(Edges.INDEX, "rowOf", full, x -> x.rowOf(16, 5));
        Edges.refused(Edges.INDEX, "personOf", full, x -> x.personOf(5, 8));
        Edges.refused(Edges.INDEX, "remembered", full, x -> x.remembered(5, -1));
        Edges.refused(Edges.INDEX, "ifAsked: who", full, x -> x.ifAsked(5, 0, 9, 8, 4));
        Edges.refused(Edges.INDEX, "ifAsked: place", full, x -> x.ifAsked(0, 4, 0, 99, 4));
    }

    private static void none() {
        Check.due("NONE", RowVeils.NONE, -1);
        RowVeils x = new RowVeils();
        x.set(0, 9);
        Check.due("no master before", x.master(0, 1), -1);
        Check.due("no master", x.personOf(1, 2), -1);
        x.row(0, 0, 5, 0);
        Check.due("no answer by count", x.ask(0, -1, 0, 99), -1);
        Check.due("no answer by sum", x.askSum(0, -1, 0, 99), -1);
        Check.due("no such question", x.remembered(0, 0), -1);
        for (int i = 0; i < 15; i++) {
            x.row(0, 0, 99, 0);
        }
        Check.due("no coarseness", x.needed(1, -1), -1);
    }

    private static void dueLook(String name, Edges.On look) {
        RowVeils x = Edges.busy();
        RowVeils y = Edges.busy();
        long first = look.call(x);
        Check.due(name + ", twice", look.call(x), first);
        Check.due(name + ", then digest()", x.digest(), y.digest());
        Check.due(name + ", then all looks and undos", Edges.story(x, 6), Edges.story(y, 6));
    }

    private static void looksChangeNothing() {
        for (int i = 0; i < 10; i++) {
            int n = i;
            dueLook("rowOf", x -> x.rowOf(n % 7, n % 5));
            dueLook("personOf", x -> x.personOf(n % 5, n % 8));
            dueLook("veils", x -> x.veils(n % 5, n % 7));
            dueLook("remembered", x -> x.remembered(n % 5, n));
            dueLook("count", x -> x.count(n));
        }
    }

    private static void whatWouldBeChangesNothing() {
        for (int i = 0; i < 20; i++) {
            int n = i;
            dueLook("ifAsked", x -> x.ifAsked(n / 4, NONE, 0, 99, n % 4));
            dueLook("ifAsked", x -> x.ifAsked(n / 4, 0, 10, 99, n % 4));
            dueLook("needed", x -> x.needed(n % 5, n / 5 - 1));
            dueLook("hides", x -> x.hides(n % 4));
        }
        dueLook("blindest", RowVeils::blindest);
        dueLook("openness", x -> Double.doubleToLongBits(x.openness()));
        dueLook("digest", RowVeils::digest);
    }
}
