/** Promises 9 to 11, 20 and 22: ask, askSum, forget, remembered, ifAsked. */
public final class QuestionsTest {
    private static final int NONE = RowVeils.NONE;

    public static void main(String[] args) {
        ask();
        askSmall();
        askCoarse();
        askWrong();
        askRemembers();
        askDifferences();
        givenAway();
        askSum();
        askSumSmall();
        forget();
        remembered();
        ifAsked();
        Check.end("QuestionsTest");
    }

    private static RowVeils some() {
        RowVeils x = new RowVeils();
        Check.add(x, "0n10,0e20,0s30,0w40,1n50,1n99,2e0!");
        return x;
    }

    private static void ask() {
        RowVeils x = some();
        Check.due("ask: all", x.ask(0, NONE, 0, 99), 5);
        Check.due("ask: those of the asker", x.ask(1, NONE, 0, 99), 6);
        Check.due("ask: a place", x.ask(1, 0, 0, 99), 3);
        Check.due("ask: a place with veils", x.ask(0, 0, 0, 99), 2);
        Check.due("ask: values, both ends", x.ask(0, NONE, 20, 40), 3);
        Check.due("ask: values, inside", x.ask(0, NONE, 21, 39), 1);
        Check.due("ask: one value", x.ask(0, NONE, 30, 30), 1);
        Check.due("ask: none", x.ask(0, 3, 41, 99), 0);
        Check.due("ask: value 0", x.ask(2, 1, 0, 0), 1);
        Check.due("ask: value 99", x.ask(1, NONE, 99, 99), 1);
        Check.due("ask: answers", x.count(5), 10);
        Check.due("ask: refused", x.count(6), 0);
        Check.due("ask: answers of 0", x.personOf(0, 6), 6);
        Check.due("ask: answers of 1", x.personOf(1, 6), 3);
        Check.due("ask: saved states", x.count(9), 6);
    }

    private static void askSmall() {
        RowVeils x = some();
        x.set(0, 3);
        Check.due("ask: enough", x.ask(0, NONE, 20, 40), 3);
        Check.due("ask: too few", x.ask(0, NONE, 20, 30), NONE);
        Check.due("ask: just one", x.ask(0, NONE, 20, 20), NONE);
        Check.due("ask: none at all", x.ask(0, NONE, 60, 70), 0);
        Check.due("ask: answers", x.personOf(0, 6), 4);
        Check.due("ask: refused", x.personOf(0, 7), 2);
        Check.due("ask: refused of all", x.count(6), 2);
        Check.due("ask: remembered", x.personOf(0, 5), 2);
        Check.due("ask: the one with rows", x.remembered(0, 0), 2 + 4 + 8);
        Check.due("ask: the one without", x.remembered(0, 1), 0);
    }

    private static void askCoarse() {
        RowVeils x = some();
        int[] due = {5, 4, 3, 4, 5, 0, 0, 0, 0};
        for (int coarse = 1; coarse <= 9; coarse++) {
            x.set(1, coarse);
            Check.due("ask: coarse by " + coarse, x.ask(0, NONE, 0, 99), due[coarse - 1]);
        }
        x.set(0, 5);
        Check.due("ask: told 0, though not refused", x.ask(0, NONE, 0, 99), 0);
        x.set(0, 6);
        Check.due("ask: refused by the true count", x.ask(0, NONE, 0, 99), NONE);
    }

    private static void askWrong() {
        RowVeils x = some();
        Check.dueIndex(x, "ask: asker 5", () -> x.ask(5, NONE, 0, 99));
        Check.dueIndex(x, "ask: asker -1", () -> x.ask(-1, NONE, 0, 99));
        Check.dueIndex(x, "ask: place 4", () -> x.ask(0, 4, 0, 99));
        Check.dueIndex(x, "ask: place -2, least -1", () -> x.ask(0, -2, -1, 99));
        Check.dueArgument(x, "ask: least -1", () -> x.ask(0, 0, -1, 99));
        Check.dueArgument(x, "ask: least 100", () -> x.ask(0, 0, 100, 100));
        Check.dueArgument(x, "ask: greatest 100", () -> x.ask(0, 0, 0, 100));
        Check.dueArgument(x, "ask: greatest below least", () -> x.ask(0, 0, 51, 50));
        Check.dueIndex(x, "askSum: asker 5", () -> x.askSum(5, NONE, 0, 99));
        Check.dueIndex(x, "askSum: asker -1", () -> x.askSum(-1, NONE, 0, 99));
        Check.dueIndex(x, "askSum: place 4", () -> x.askSum(0, 4, 9, 8));
        Check.dueIndex(x, "askSum: place -2", () -> x.askSum(0, -2, 0, 99));
        Check.dueArgument(x, "askSum: least -1", () -> x.askSum(0, 0, -1, 99));
        Check.dueArgument(x, "askSum: greatest 100", () -> x.askSum(0, 0, 0, 100));
        Check.dueArgument(x, "askSum: greatest below least", () -> x.askSum(0, 0, 1, 0));
    }

    private static void askRemembers() {
        RowVeils x = some();
        int[] places = {0, 1, 2, 3, NONE, 0, 1, 2};
        int[] masks = {1 + 16, 2, 4, 8, 31, 1 + 16, 2, 4};
        for (int i = 0; i < 8; i++) {
            x.ask(0, places[i], 0, 99);
            Check.due("ask: remembered questions", x.personOf(0, 5), Math.min(i + 1, 6));
            Check.due("ask: the latest", x.remembered(0, Math.min(i, 5)), masks[i]);
            Check.due("ask: the oldest", x.remembered(0, 0), masks[Math.max(0, i - 5)]);
        }
        for (int i = 0; i < 6; i++) {
            Check.due("ask: in their order, " + i, x.remembered(0, i), masks[i + 2]);
        }
        Check.due("ask: the neighbours' memory", x.personOf(1, 5), 0);
        x.ask(1, 0, 0, 99);
        Check.due("ask: a neighbour's question", x.remembered(1, 0), 1 + 16 + 32);
        Check.due("ask: the last one of 0 stays", x.remembered(0, 5), 4);
        x.ask(0, 3, 0, 99);
        Check.due("ask: the neighbour's question is still there", x.remembered(1, 0), 1 + 16 + 32);
        Check.due("ask: the same question twice is remembered twice", x.ask(1, 0, 0, 99) + x.personOf(1, 5), 5);
    }

    private static void askDifferences() {
        RowVeils x = some();
        x.set(2, 1);
        Check.due("ask: the first", x.ask(0, NONE, 10, 30), 3);
        Check.due("ask: one more", x.ask(0, NONE, 10, 40), NONE);
        Check.due("ask: one less", x.ask(0, NONE, 20, 30), NONE);
        Check.due("ask: the same", x.ask(0, NONE, 10, 30), 3);
        Check.due("ask: two more", x.ask(0, NONE, 10, 50), 5);
        Check.due("ask: one other", x.ask(0, NONE, 20, 40), 3);
        Check.due("ask: by another asker", x.ask(1, NONE, 10, 40), 4);
        Check.due("ask: not remembered if refused", x.personOf(0, 5), 4);
        Check.due("ask: refused", x.personOf(0, 7), 2);
        Check.due("ask: none given away", x.count(7), 0);
        x.ask(2, NONE, 60, 70);
        Check.due("ask: one behind none at all", x.ask(2, NONE, 20, 20), NONE);
        x.forget(2);
        Check.due("ask: after forgetting", x.ask(2, NONE, 20, 20), 1);
        RowVeils y = some();
        y.set(2, 1);
        y.ask(0, NONE, 10, 20);
        for (int i = 0; i < 6; i++) {
            Check.due("ask: an old one, " + i, y.ask(0, NONE, 10, 30), NONE);
            y.ask(0, NONE, 10, 40);
        }
        Check.due("ask: the old one is gone, but a new one is near", y.ask(0, NONE, 10, 30), NONE);
        Check.due("ask: what is near the old one alone", y.ask(0, NONE, 10, 10), 1);
    }

    private static void givenAway() {
        RowVeils x = some();
        x.ask(0, NONE, 10, 30);
        Check.due("given away: none yet", x.count(7), 0);
        x.ask(0, NONE, 10, 30);
        Check.due("given away: not by the same", x.count(7), 0);
        x.ask(0, NONE, 10, 40);
        Check.due("given away: one more", x.count(7), 1);
        x.ask(0, NONE, 10, 20);
        Check.due("given away: one less", x.count(7), 2);
        x.ask(0, NONE, 10, 30);
        Check.due("given away: several at once are one answer", x.count(7), 3);
        x.set(0, 9);
        x.ask(0, NONE, 10, 20);
        x.ask(0, NONE, 20, 30);
        Check.due("given away: not if refused", x.count(7), 3);
        x.set(0, 1);
        x.set(2, 1);
        x.ask(0, NONE, 10, 50);
        Check.due("given away: not if differences are looked for", x.count(7), 3);
        x.set(2, 0);
        x.set(1, 9);
        Check.due("given away: made coarse", x.ask(0, NONE, 10, 50), 0);
        Check.due("given away: made coarse, too", x.count(7), 4);
        x.askSum(0, NONE, 10, 40);
        Check.due("given away: not by sums", x.count(7), 4);
        x.drop(0);
        Check.due("given away: dropped rows differ in nothing", x.ifAsked(0, NONE, 10, 50, 2), 1);
        Check.due("given away: but for the others", x.ifAsked(0, NONE, 60, 70, 2), 1);
    }

    private static void askSum() {
        RowVeils x = some();
        Check.due("askSum: all that is seen", x.askSum(0, NONE, 0, 99), 150);
        Check.due("askSum: twice the greatest is the sum", x.askSum(0, NONE, 10, 30), 60);
        Check.due("askSum: twice the greatest is above", x.askSum(0, NONE, 10, 20), NONE);
        Check.due("askSum: one row", x.askSum(0, 3, 0, 99), NONE);
        Check.due("askSum: one row of 0", x.askSum(2, 1, 0, 0), 0);
        Check.due("askSum: no rows", x.askSum(0, NONE, 60, 70), 0);
        Check.due("askSum: a place", x.askSum(0, 0, 0, 99), NONE);
        Check.due("askSum: answers", x.personOf(0, 6), 6);
        Check.due("askSum: refused", x.personOf(0, 7), 3);
        Check.due("askSum: answers of all", x.count(5), 7);
        Check.due("askSum: refused of all", x.count(6), 3);
        Check.due("askSum: not remembered", x.personOf(0, 5), 0);
        Check.due("askSum: saved states", x.count(9), 6);
        x.set(1, 9);
        Check.due("askSum: never made coarse", x.askSum(0, NONE, 10, 30), 60);
        x.set(2, 1);
        x.ask(0, NONE, 10, 40);
        Check.due("askSum: differences are not looked for", x.askSum(0, NONE, 10, 30), 60);
        x.change(0, 9);
        Check.due("askSum: twice the greatest is one above", x.askSum(0, NONE, 9, 30), NONE);
    }

    private static void askSumSmall() {
        RowVeils x = some();
        x.set(0, 4);
        Check.due("askSum: enough rows", x.askSum(0, NONE, 10, 40), 100);
        Check.due("askSum: too few", x.askSum(0, NONE, 10, 30), NONE);
        Check.due("askSum: none", x.askSum(0, NONE, 60, 70), 0);
        Check.due("askSum: too few of 0", x.askSum(2, 1, 0, 0), NONE);
        RowVeils y = new RowVeils();
        for (int i = 0; i < 16; i++) {
            y.row(3, 0, 99, 0);
        }
        Check.due("askSum: the greatest of all", y.askSum(3, NONE, 0, 99), 16 * 99);
        Check.due("askSum: what is veiled is in none", y.askSum(2, NONE, 0, 99), 0);
    }

    private static void forget() {
        RowVeils x = some();
        Check.due("forget: nothing", x.forget(0), 0);
        x.ask(0, NONE, 0, 99);
        x.ask(0, 0, 0, 99);
        x.ask(1, 0, 0, 99);
        Check.due("forget: how many", x.forget(0), 2);
        Check.due("forget: none left", x.personOf(0, 5), 0);
        Check.due("forget: nothing there", x.remembered(0, 0), NONE);
        Check.due("forget: the others'", x.personOf(1, 5), 1);
        Check.due("forget: answers stay", x.personOf(0, 6), 2);
        Check.due("forget: saved states", x.count(9), 6);
        x.ask(0, 1, 0, 99);
        Check.due("forget: the first one after it", x.remembered(0, 0), 2);
        Check.dueIndex(x, "forget: 5", () -> x.forget(5));
        Check.dueIndex(x, "forget: -1", () -> x.forget(-1));
    }

    private static void remembered() {
        RowVeils x = some();
        x.ask(4, 0, 0, 99);
        Check.dueLook(x, "remembered: the first", 1 + 16, () -> x.remembered(4, 0));
        Check.dueLook(x, "remembered: there is no second", NONE, () -> x.remembered(4, 1));
        Check.due("remembered: far out", x.remembered(4, Integer.MAX_VALUE), NONE);
        Check.due("remembered: of another", x.remembered(3, 0), NONE);
        Check.due("remembered: a seventh of a neighbour", x.remembered(3, 6), NONE);
        Check.dueIndex(x, "remembered: asker 5", () -> x.remembered(5, -1));
        Check.dueIndex(x, "remembered: asker -1", () -> x.remembered(-1, 0));
        Check.dueArgument(x, "remembered: place -1", () -> x.remembered(0, -1));
    }

    private static void ifAsked() {
        RowVeils x = some();
        Check.dueLook(x, "ifAsked: count", 5, () -> x.ifAsked(0, NONE, 0, 99, 0));
        Check.dueLook(x, "ifAsked: sum", 150, () -> x.ifAsked(0, NONE, 0, 99, 1));
        Check.dueLook(x, "ifAsked: gives nothing away", 0, () -> x.ifAsked(0, NONE, 0, 99, 2));
        Check.dueLook(x, "ifAsked: nothing veiled", 7, () -> x.ifAsked(0, NONE, 0, 99, 3));
        Check.due("ifAsked: nothing veiled, a place", x.ifAsked(0, 0, 0, 99, 3), 3);
        Check.due("ifAsked: nothing veiled, values", x.ifAsked(0, NONE, 50, 99, 3), 2);
        x.ask(0, NONE, 0, 99);
        Check.due("ifAsked: one less", x.ifAsked(0, NONE, 11, 99, 2), 1);
        Check.due("ifAsked: two less", x.ifAsked(0, NONE, 21, 99, 2), 0);
        Check.due("ifAsked: for another", x.ifAsked(1, NONE, 11, 99, 2), 0);
        Check.due("ifAsked: not refused", x.ifAsked(0, NONE, 11, 99, 0), 4);
        x.set(2, 1);
        Check.due("ifAsked: refused", x.ifAsked(0, NONE, 11, 99, 0), NONE);
        Check.due("ifAsked: refused, and yet", x.ifAsked(0, NONE, 11, 99, 2), 1);
        Check.due("ifAsked: the sum of that", x.ifAsked(0, NONE, 11, 99, 1), 140);
        x.set(0, 5);
        x.set(1, 2);
        Check.due("ifAsked: coarse", x.ifAsked(0, NONE, 0, 99, 0), 4);
        Check.due("ifAsked: too few", x.ifAsked(0, NONE, 21, 99, 0), NONE);
        Check.due("ifAsked: too few for a sum", x.ifAsked(0, NONE, 11, 99, 1), NONE);
        Check.due("ifAsked: too few, and yet", x.ifAsked(0, NONE, 11, 99, 2), 1);
        Check.due("ifAsked: nothing veiled, never refused", x.ifAsked(0, 3, 0, 99, 3), 1);
        Check.dueIndex(x, "ifAsked: asker 5", () -> x.ifAsked(5, NONE, 0, 99, 9));
        Check.dueIndex(x, "ifAsked: asker -1", () -> x.ifAsked(-1, NONE, 0, 99, 0));
        Check.dueIndex(x, "ifAsked: place 4", () -> x.ifAsked(0, 4, 9, 8, 3));
        Check.dueIndex(x, "ifAsked: place -2", () -> x.ifAsked(0, -2, 0, 99, 3));
        Check.dueArgument(x, "ifAsked: least -1", () -> x.ifAsked(0, NONE, -1, 99, 3));
        Check.dueArgument(x, "ifAsked: greatest 100", () -> x.ifAsked(0, NONE, 0, 100, 3));
        Check.dueArgument(x, "ifAsked: greatest below least", () -> x.ifAsked(0, NONE, 9, 8, 0));
        Check.dueArgument(x, "ifAsked: what 4", () -> x.ifAsked(0, NONE, 0, 99, 4));
        Check.dueArgument(x, "ifAsked: what -1", () -> x.ifAsked(0, NONE, 0, 99, -1));
    }
}
