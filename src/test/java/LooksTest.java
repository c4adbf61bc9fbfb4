/** Promises 17, 18, 21 and 24 to 27: rowOf, personOf, count, blindest, needed, openness, digest. */
public final class LooksTest {
    private static final int NONE = RowVeils.NONE;

    public static void main(String[] args) {
        rowOf();
        personOf();
        count();
        blindest();
        needed();
        neededOfAll();
        openness();
        everyShare();
        digest();
        Check.end("LooksTest");
    }

    private static void rowOf() {
        RowVeils x = new RowVeils();
        Check.dueIndex(x, "rowOf: without rows", () -> x.rowOf(0, 9));
        Check.add(x, "3e42,4w91,0s7!!");
        int[][] want = {{3, 1, 42, 0, 31}, {4, 3, 91, 0, 16}, {0, 2, 7, 2, 1}};
        for (int row = 0; row < 3; row++) {
            for (int what = 0; what < 5; what++) {
                int r = row;
                int w = what;
                Check.dueLook(x, "rowOf(" + r + ", " + w + ")", want[r][w], () -> x.rowOf(r, w));
            }
        }
        x.person(2, 2, 2);
        Check.due("rowOf: who sees it then", x.rowOf(2, 4), 5);
        Check.dueIndex(x, "rowOf: row 3", () -> x.rowOf(3, 0));
        Check.dueIndex(x, "rowOf: row -1, what 5", () -> x.rowOf(-1, 5));
        Check.dueArgument(x, "rowOf: what 5", () -> x.rowOf(0, 5));
        Check.dueArgument(x, "rowOf: what -1", () -> x.rowOf(0, -1));
    }

    private static void personOf() {
        RowVeils x = new RowVeils();
        Check.add(x, "0n10,1e95,2s20!,3w30!!");
        x.person(3, 1, 2);
        x.master(3, 0);
        x.ask(3, NONE, 0, 99);
        x.ask(3, NONE, 0, 9);
        x.askSum(3, NONE, 0, 15);
        int[] want = {1, 2, 0, 3, 1 + 4 + 8, 2, 3, 1};
        for (int what = 0; what < 8; what++) {
            int w = what;
            Check.dueLook(x, "personOf(3, " + w + ")", want[w], () -> x.personOf(3, w));
        }
        Check.due("personOf: rows of 1", x.personOf(1, 3), 2);
        Check.due("personOf: their mask", x.personOf(1, 4), 3);
        Check.due("personOf: answers of 1", x.personOf(1, 6), 0);
        Check.dueIndex(x, "personOf: 5", () -> x.personOf(5, 8));
        Check.dueIndex(x, "personOf: -1", () -> x.personOf(-1, 0));
        Check.dueArgument(x, "personOf: what 8", () -> x.personOf(0, 8));
        Check.dueArgument(x, "personOf: what -1", () -> x.personOf(0, -1));
    }

    private static void count() {
        RowVeils x = new RowVeils();
        Check.add(x, "0n10,0n20,0n95");
        x.force(3, false);
        x.set(0, 2);
        x.set(1, 3);
        x.set(2, 1);
        x.ask(0, NONE, 0, 99);
        x.ask(1, NONE, 0, 99);
        x.ask(0, NONE, 0, 20);
        x.set(2, 0);
        x.ask(0, NONE, 0, 20);
        x.askSum(1, NONE, 0, 15);
        int[] want = {3, 7, 2, 3, 0, 5, 2, 1, 4, 6};
        for (int what = 0; what < 10; what++) {
            int w = what;
            Check.dueLook(x, "count(" + w + ")", want[w], () -> x.count(w));
        }
        Check.dueArgument(x, "count: 10", () -> x.count(10));
        Check.dueArgument(x, "count: -1", () -> x.count(-1));
    }

    private static void blindest() {
        RowVeils x = new RowVeils();
        Check.due("blindest: without rows", x.blindest(), 0);
        x.row(0, 0, 99, 0);
        Check.dueLook(x, "blindest: of several the lowest", 1, x::blindest);
        x.row(1, 0, 99, 0);
        Check.due("blindest: the next", x.blindest(), 2);
        x.row(2, 0, 99, 0);
        x.row(3, 0, 99, 0);
        Check.due("blindest: the last", x.blindest(), 4);
        x.row(4, 0, 99, 0);
        Check.due("blindest: all alike", x.blindest(), 0);
        x.person(0, 1, 0);
        x.row(4, 0, 5, 1);
        Check.due("blindest: not with a rank", x.blindest(), 1);
        x.force(2, false);
        x.force(0, false);
        Check.due("blindest: nothing veiled", x.blindest(), 0);
        RowVeils y = new RowVeils();
        for (int i = 0; i < 16; i++) {
            y.row(0, 0, i == 7 ? 90 : 0, 0);
        }
        Check.due("blindest: 15 of 16", y.blindest(), 1);
    }

    private static void needed() {
        RowVeils x = new RowVeils();
        Check.due("needed: without rows", x.needed(0, NONE), 1);
        Check.add(x, "0n10,0n20,0n95,0e95,1e5");
        Check.due("needed: nothing veiled", x.needed(0, NONE), 1);
        Check.dueLook(x, "needed: 3 of 5", 3, () -> x.needed(1, NONE));
        Check.due("needed: 2 of 3", x.needed(1, 0), 2);
        Check.due("needed: 1 of 2", x.needed(2, 1), 3);
        Check.due("needed: of a place without rows", x.needed(2, 3), 1);
        x.set(0, 9);
        x.set(1, 9);
        x.set(2, 1);
        Check.due("needed: settings make no difference", x.needed(1, NONE), 3);
        x.row(0, 0, 5, 0);
        x.row(0, 0, 5, 0);
        x.row(0, 0, 6, 0);
        Check.due("needed: 6 of 8", x.needed(1, NONE), 3);
        x.row(0, 2, 0, 0);
        Check.due("needed: a seen row of value 0", x.needed(1, 2), 1);
        x.row(0, 2, 99, 0);
        Check.due("needed: and a veiled one", x.needed(1, 2), 3);
        x.row(0, 3, 0, 0);
        x.person(1, 0, 3);
        x.row(0, 3, 0, 1);
        Check.due("needed: a veiled row of value 0", x.needed(1, 3), 3);
        Check.dueIndex(x, "needed: asker 5", () -> x.needed(5, NONE));
        Check.dueIndex(x, "needed: asker -1", () -> x.needed(-1, 0));
        Check.dueIndex(x, "needed: place 4", () -> x.needed(0, 4));
        Check.dueIndex(x, "needed: place -2", () -> x.needed(0, -2));
    }

    /** Each number of seen rows of each number of rows. */
    private static void neededOfAll() {
        for (int all = 1; all <= 16; all++) {
            RowVeils x = new RowVeils();
            for (int i = 0; i < all; i++) {
                x.row(0, 0, 90, 0);
            }
            for (int seen = 0; seen <= all; seen++) {
                int want = NONE;
                for (int c = 9; c >= 1; c--) {
                    want = seen / c == all / c ? c : want;
                }
                Check.due("needed: " + seen + " of " + all, x.needed(1, NONE), want);
                if (seen < all) {
                    x.change(seen, 89);
                }
            }
        }
    }

    private static void openness() {
        RowVeils x = new RowVeils();
        Check.dueShare("openness: without rows", x.openness(), 1.0);
        x.row(0, 0, 5, 0);
        Check.dueShare("openness: all is seen", x.openness(), 1.0);
        x.row(0, 0, 99, 0);
        Check.dueShare("openness: 6 of 10", x.openness(), 6.0 / 10.0);
        x.row(0, 0, 99, 0);
        Check.dueShare("openness: 7 of 15", x.openness(), 7.0 / 15.0);
        x.drop(0);
        x.drop(0);
        Check.dueShare("openness: 1 of 5", x.openness(), 0.2);
        Check.due("openness: veiled pairs", x.count(8), 4);
    }

    /** Many shares, seen by the owner 0 alone or by the first people, as openness tells them, and as digest has their bits. */
    private static void everyShare() {
        for (int rows = 0; rows <= 16; rows++) {
            RowVeils x = new RowVeils();
            for (int i = 0; i < rows; i++) {
                x.row(0, 1, 0, 1);
            }
            for (int ranked = 0; ranked <= 5; ranked++) {
                for (int veiled = 0; veiled <= rows; veiled++) {
                    int seen = veiled + (rows - veiled) * Math.max(1, ranked);
                    Check.dueShare("openness: share", x.openness(), rows == 0 ? 1.0 : (double) seen / (5 * rows));
                    Check.due("digest: share", x.digest(), Check.digestOf(x, ""));
                    if (veiled < rows) {
                        x.change(veiled, 99);
                    }
                }
                for (int row = 0; row < rows; row++) {
                    x.change(row, 0);
                }
                x.person(Math.min(ranked, 4), 1, 0);
            }
        }
    }

    private static void digest() {
        RowVeils x = new RowVeils();
        Check.add(x, "0n10,1e20!,2s95!!,3w50!!!");
        x.person(1, 3, 2);
        x.person(4, 2, 3);
        x.master(3, 1);
        x.master(1, 4);
        x.force(2, false);
        x.set(1, 2);
        for (int i = 0; i < 8; i++) {
            x.ask(i % 3, i % 2 - 1, 0, 20 * i % 100 + 19);
            Check.due("digest: questions", x.digest(), Check.digestOf(x, ""));
        }
        x.askSum(2, NONE, 0, 99);
        Check.type(x, "0n5,~");
        Check.due("digest: buffer", x.digest(), Check.digestOf(x, "0n5,~"));
        Check.due("digest: changes nothing", x.digest(), x.digest());
        x.drop(1);
        Check.due("digest: a row less", x.digest(), Check.digestOf(x, "0n5,~"));
    }
}
