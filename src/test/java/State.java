/**
 * All that an object would answer, in one text: two objects alike have the same. The object is spent
 * by it (some 300 calls, and what it had is gone).
 */
final class State {
    private State() {
    }

    static String of(BathNight x) {
        StringBuilder s = new StringBuilder();
        counts(x, s);
        s.append(" fault ").append(x.fault());
        house(x, s);
        evenings(x, s);
        wishes(x, s);
        for (int back = x.back(); back >= 0; back = x.back()) {
            s.append(" back ").append(back);
            wishes(x, s);
        }
        // what THE TEXT tells is seen when it is laid
        s.append(" lay ").append(x.lay());
        counts(x, s);
        house(x, s);
        return s.append(" wipe ").append(x.wipe()).toString();
    }

    private static void counts(BathNight x, StringBuilder s) {
        for (int what = 0; what < 7; what++) {
            s.append(' ').append(x.count(what));
        }
    }

    private static void house(BathNight x, StringBuilder s) {
        s.append(" house");
        for (int i = 0; i < x.count(0); i++) {
            for (int what = 0; what < 8; what++) {
                s.append(' ').append(x.bather(i, what));
            }
            s.append(" bath ").append(x.bath(i, true, 0));
        }
        s.append(" drawn ").append(x.drawn(1, -1)).append(' ').append(x.drawn(1, x.count(1) - 1));
    }

    private static void evenings(BathNight x, StringBuilder s) {
        s.append(" evenings");
        for (int rule = 0; rule < 4; rule++) {
            s.append(' ').append(x.score(rule, 2)).append(' ').append(x.left(rule, 0)).append(' ').append(x.left(rule, 6));
            for (int i = 0; i < x.count(0); i++) {
                s.append(' ').append(x.evening(rule, i, 0)).append(' ').append(x.evening(rule, i, 3));
            }
        }
    }

    /** Reads ROW, X, PLAN and tenths by putting others in their place. */
    private static void wishes(BathNight x, StringBuilder s) {
        s.append(" wishes");
        for (int k = 0; k < x.count(0); k++) {
            s.append(' ').append(x.row(k, k));
        }
        s.append(" hot ").append(x.hot(0)).append(" plan ");
        for (int t = 0; t < 60; t++) {
            s.append(x.plan(t, false));
        }
        s.append(" tenths");
        for (int d = 0; d < 6; d++) {
            s.append(' ').append(x.tenths(d, 0));
        }
    }
}
