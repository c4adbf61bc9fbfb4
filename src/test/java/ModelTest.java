/** All promises: runs of calls, always the same ones, played on RowVeils and on PlainVeils side by side. */
public final class ModelTest {
    private static final int RUNS = 1500;
    private static final int CALLS = 512;
    private static final int[] VALUES = {0, 1, 2, 5, 10, 10, 20, 50, 89, 90, 91, 98, 99};

    private final RowVeils x = new RowVeils();
    private final PlainVeils plain = new PlainVeils();
    private final int run;
    private final int kind;
    private long seed;

    private ModelTest(int run) {
        this.run = run;
        this.kind = run % 4;
        this.seed = run * 7919L + 12345L;
    }

    private int pick(int below) {
        seed = seed * 6364136223846793005L + 1442695040888963407L;
        return (int) ((seed >>> 33) % below);
    }

    /** Mostly a number from least to greatest, now and then one that is out of range. */
    private int number(int least, int greatest) {
        if (pick(60) == 0) {
            int[] odd = {least - 1, greatest + 1, least - 2, greatest + 7, Integer.MIN_VALUE, Integer.MAX_VALUE};
            return odd[pick(odd.length)];
        }
        return least + pick(greatest - least + 1);
    }

    private int value() {
        return pick(60) == 0 ? number(0, 99) : pick(4) == 0 ? pick(100) : VALUES[pick(VALUES.length)];
    }

    private int rowNumber() {
        return number(0, Math.max(0, x.count(0) - 1));
    }

    private static String outcome(Check.Call call) {
        return Check.outcome(call);
    }

    private void both(String name, Check.Call a, Check.Call b) {
        Check.dueText("run " + run + ": " + name, outcome(a), outcome(b));
    }

    private void change() {
        int a = number(0, 4);
        int b = number(-1, 4);
        int place = number(0, 3);
        int value = value();
        int secrecy = number(0, 3);
        int row = rowNumber();
        switch (pick(kind == 3 ? 8 : 12)) {
            case 0: case 1: case 2: case 3:
                both("row", () -> x.row(a, place, value, secrecy), () -> plain.row(a, place, value, secrecy));
                break;
            case 4:
                both("drop", () -> x.drop(row), () -> plain.drop(row));
                break;
            case 5:
                both("change", () -> x.change(row, value), () -> plain.change(row, value));
                break;
            case 6:
                both("person", () -> x.person(a, secrecy, place), () -> plain.person(a, secrecy, place));
                break;
            case 7:
                both("master", () -> x.master(a, b), () -> plain.master(a, b));
                break;
            case 8:
                boolean is = pick(3) > 0;
                both("force", () -> x.force(secrecy, is), () -> plain.force(secrecy, is));
                break;
            case 9: case 10:
                int setting = number(0, 2);
                int to = setting == 2 ? number(0, 1) : pick(3) == 0 ? number(1, 9) : number(1, 3);
                both("set", () -> x.set(setting, to), () -> plain.set(setting, to));
                break;
            default:
                both("forget", () -> x.forget(a), () -> plain.forget(a));
                break;
        }
    }

    private void question() {
        int asker = number(0, kind == 2 ? 1 : 4);
        int place = pick(2) == 0 ? -1 : number(-1, 3);
        int least = pick(2) == 0 ? 0 : value();
        int greatest = pick(2) == 0 ? 99 : pick(8) == 0 ? value() : number(Math.min(Math.max(least, 0), 99), 99);
        int what = number(0, 3);
        switch (pick(4)) {
            case 0:
                both("askSum", () -> x.askSum(asker, place, least, greatest),
                        () -> plain.askSum(asker, place, least, greatest));
                break;
            case 1:
                both("ifAsked", () -> x.ifAsked(asker, place, least, greatest, what),
                        () -> plain.ifAsked(asker, place, least, greatest, what));
                break;
            default:
                both("ask", () -> x.ask(asker, place, least, greatest),
                        () -> plain.ask(asker, place, least, greatest));
                break;
        }
    }

    /** A likely next character behind a text, so that many texts are right and many are nearly so. */
    private int code(int at) {
        if (pick(40) == 0) {
            return number(33, 126);
        }
        String all = "01234nesw0123456789!,";
        String[] likely = {"01234", "nesw", "0123456789", "0123456789!,,,", "!,,"};
        return pick(30) == 0 ? all.charAt(pick(all.length())) : likely[at].charAt(pick(likely[at].length()));
    }

    private void text() {
        int parts = pick(4);
        for (int part = 0; part <= parts; part++) {
            for (int at = 0; at < 3; at++) {
                int code = code(at);
                both("append", () -> x.append(code), () -> plain.append(code));
            }
            int more = pick(4);
            for (int i = 0; i < more; i++) {
                int code = code(i == 0 ? 3 : 4);
                both("append", () -> x.append(code), () -> plain.append(code));
            }
            if (part < parts) {
                both("append", () -> x.append(','), () -> plain.append(','));
            }
        }
        both("firstError", x::firstError, plain::firstError);
        both("rows", x::rows, plain::rows);
        if (pick(3) > 0) {
            both("clearBuffer", x::clearBuffer, plain::clearBuffer);
        }
    }

    private void look() {
        int person = number(0, 4);
        int row = rowNumber();
        int what = number(0, 9);
        int place = number(-1, 3);
        both("rowOf", () -> x.rowOf(row, what), () -> plain.rowOf(row, what));
        both("personOf", () -> x.personOf(person, what), () -> plain.personOf(person, what));
        both("veils", () -> x.veils(person, row), () -> plain.veils(person, row));
        both("remembered", () -> x.remembered(person, what), () -> plain.remembered(person, what));
        both("count", () -> x.count(what), () -> plain.count(what));
        both("hides", () -> x.hides(place), () -> plain.hides(place));
        both("blindest", x::blindest, plain::blindest);
        both("needed", () -> x.needed(person, place), () -> plain.needed(person, place));
        Check.dueShare("run " + run + ": openness", x.openness(), plain.openness());
    }

    private void play() {
        for (int call = 0; call < CALLS; call++) {
            int which = pick(20);
            if (which < 7) {
                change();
            } else if (which < 13) {
                question();
            } else if (which < 14) {
                text();
            } else if (which < 16) {
                both("undo", x::undo, plain::undo);
            } else {
                look();
            }
            if (call % 16 == 0) {
                both("digest", x::digest, plain::digest);
            }
        }
        both("digest", x::digest, plain::digest);
    }

    public static void main(String[] args) {
        for (int run = 1; run <= RUNS; run++) {
            new ModelTest(run).play();
        }
        Check.end("ModelTest");
    }
}
