/** What the project's tests share: they print every answer that is not the one that is due, and end with 1 if there was one. */
final class Check {
    private static int looked = 0;
    private static int wrong = 0;

    interface Call {
        long run();
    }

    private Check() {
    }

    static int looked() {
        return looked;
    }

    static int wrong() {
        return wrong;
    }

    static void fail(String what) {
        looked++;
        wrong++;
        System.out.println(what);
    }

    static void due(String call, long got, long want) {
        looked++;
        if (got != want) {
            wrong++;
            System.out.println(call + " answered " + got + ", due is " + want);
        }
    }

    static void dueShare(String call, double got, double want) {
        due(call + " as bits", Double.doubleToRawLongBits(got), Double.doubleToRawLongBits(want));
    }

    static void dueText(String call, String got, String want) {
        looked++;
        if (!got.equals(want)) {
            wrong++;
            System.out.println(call + " answered " + got + ", due is " + want);
        }
    }

    /** Expects just this exception, and that the call changed nothing, not even the number of saved states. */
    static void dueThrow(RowVeils x, Class<? extends RuntimeException> kind, String call, Call run) {
        long before = x.digest();
        String got = outcome(run);
        dueText(call, got, kind.getSimpleName());
        due(call + ", then digest()", x.digest(), before);
    }

    static void dueIndex(RowVeils x, String call, Call run) {
        dueThrow(x, IndexOutOfBoundsException.class, call, run);
    }

    static void dueArgument(RowVeils x, String call, Call run) {
        dueThrow(x, IllegalArgumentException.class, call, run);
    }

    static void dueState(RowVeils x, String call, Call run) {
        dueThrow(x, IllegalStateException.class, call, run);
    }

    /** Expects that a look leaves the state as it was. */
    static void dueLook(RowVeils x, String call, long want, Call run) {
        long before = x.digest();
        due(call, run.run(), want);
        due(call + ", then digest()", x.digest(), before);
    }

    static String outcome(Call run) {
        try {
            return Long.toString(run.run());
        } catch (RuntimeException e) {
            return e.getClass().getSimpleName();
        }
    }

    static void type(RowVeils x, String text) {
        for (int i = 0; i < text.length(); i++) {
            x.append(text.charAt(i));
        }
    }

    /** Clears the buffer and adds the rows of a text; returns how many came. */
    static int add(RowVeils x, String text) {
        x.clearBuffer();
        type(x, text);
        return x.rows();
    }

    /** Promise 27's list, put together from the answers of the face; the buffer, which no look tells, is given. */
    static long digestOf(RowVeils x, String buffer) {
        long hash = 3469;
        for (int what = 0; what < 10; what++) {
            hash = 31 * hash + x.count(what);
        }
        for (int row = 0; row < x.count(0); row++) {
            for (int what = 0; what < 5; what++) {
                hash = 31 * hash + x.rowOf(row, what);
            }
        }
        for (int person = 0; person < 5; person++) {
            for (int what = 0; what < 8; what++) {
                hash = 31 * hash + x.personOf(person, what);
            }
            for (int place = 0; place < x.personOf(person, 5); place++) {
                hash = 31 * hash + x.remembered(person, place);
            }
            for (int what = 0; what < 4; what++) {
                hash = 31 * hash + x.ifAsked(person, RowVeils.NONE, 0, 99, what);
            }
            hash = 31 * hash + x.needed(person, RowVeils.NONE);
        }
        for (int rule = 0; rule < 4; rule++) {
            hash = 31 * hash + x.hides(rule);
        }
        hash = 31 * hash + x.blindest();
        hash = 31 * hash + Double.doubleToLongBits(x.openness());
        hash = 31 * hash + buffer.length();
        for (int i = 0; i < buffer.length(); i++) {
            hash = 31 * hash + buffer.charAt(i);
        }
        return hash;
    }

    static void end(String test) {
        System.out.println(test + ": " + looked + " answers looked at, " + wrong + " not as due");
        if (wrong != 0 || looked == 0) {
            System.exit(1);
        }
    }
}
