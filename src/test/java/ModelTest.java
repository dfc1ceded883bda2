import java.util.Collections;
import java.util.List;

/**
 * Promises 5 to 26 held against Model, in houses made by a fixed row of numbers: small ones and
 * large ones, with cold and hot water, few and many fires.
 */
public final class ModelTest {
    private static long seed = 20261118;

    static int some(int low, int high) {
        seed = seed * 6364136223846793005L + 1442695040888963407L;
        return low + (int) ((seed >>> 33) % (high - low + 1));
    }

    public static void main(String[] args) {
        int houses = args.length > 0 ? Integer.parseInt(args[0]) : 100;
        for (int k = 0; k < houses; k++) {
            house(someText());
        }
        Check.end();
    }

    static String someText() {
        StringBuilder s = new StringBuilder();
        int cold = some(0, 3) == 0 ? some(0, 40) : some(5, 15);
        s.append('t').append(some(1, 6)).append(',').append(some(0, 2) == 0 ? some(1, 60) : some(5, 20)).append(',')
            .append(cold).append(',').append(some(cold, some(0, 1) == 0 ? 95 : Math.max(cold, 50))).append(',')
            .append(some(0, 1) == 0 ? some(0, 999) : some(0, 40)).append(';');
        int most = some(0, 1) == 0 ? 9999 : 1500;
        for (int k = some(0, 4); k > 0; k--) {
            s.append('f').append(some(1, 3)).append(',').append(some(0, most)).append(',').append(some(1, some(1, 30))).append(';');
        }
        s.append('c').append(some(0, 1) == 0 ? some(0, 2) : some(0, 9)).append(';');
        int bathers = some(0, 9) == 0 ? some(0, 1) : some(2, 6);
        for (int i = 0; i < bathers; i++) {
            int low = some(0, 4) == 0 ? some(0, 99) : some(28, 45);
            s.append('b').append(some(0, 2) == 0 ? some(1, 99) : some(5, 40)).append(',').append(low).append(',')
                .append(some(0, 1) == 0 ? some(low, 99) : Math.min(99, low + some(0, 8))).append(',')
                .append(some(0, 3) == 0 ? some(1, 20) : some(1, 5)).append(',')
                .append(some(0, 5) == 0 ? some(0, 60) : some(0, 12)).append(',').append(some(0, 99)).append(';');
            for (int k = some(-2, 2); i > 0 && k > 0; k--) {
                int other = some(0, i - 1);
                boolean turned = some(0, 4) == 0;
                s.append(some(0, 2) == 0 ? 'a' : 's').append(turned ? other : i).append(',').append(turned ? i : other).append(';');
            }
        }
        if (some(0, 1) == 0) {
            s.append('q').append(some(0, some(0, 9))).append(';');
        }
        if (some(0, 1) == 0) {
            s.append('k').append(some(0, 20)).append(',').append(some(1, some(1, 30))).append(';');
        }
        if (some(0, 1) == 0) {
            s.append('n').append(some(1, 60)).append(';');
        }
        return s.toString();
    }

    private static void due(String text, String call, long got, long want) {
        Check.due(text + " " + call, got, want);
    }

    private static void house(String text) {
        BathNight x = Check.laid(text);
        Model m = new Model(text);
        due(text, "count(0)", x.count(0), m.size());
        due(text, "count(1)", x.count(1), m.layers);
        due(text, "count(2)", x.count(2), m.steps);
        due(text, "count(6)", x.count(6), m.fires);
        tank(text, x, m);
        evenings(text, x, m);
        tried(text, x, m);
        // an object is for 512 calls: there is no room for more than one change of the wishes
        wish(text, x, m);
        tried(text, x, m);
        costly(text, x, m);
        evenings(text, x, m);
    }

    private static void tank(String text, BathNight x, Model m) {
        int[] full = m.fullTank();
        int holds = m.layers * m.pints;
        for (int h : new int[] {0, 1, m.pints - 1, m.pints, m.pints + 1, some(0, holds), holds - 1, holds}) {
            if (h < 0 || h > holds) {
                continue;
            }
            due(text, "drawn(" + h + ", -1)", x.drawn(h, -1), m.drawnUnits(full, h));
            int[] after = m.afterDrawing(full, h);
            for (int k = 0; k < m.layers; k++) {
                due(text, "drawn(" + h + ", " + k + ")", x.drawn(h, k), after[k]);
            }
        }
        due(text, "drawn(too many)", x.drawn(holds + 1, -1), -1);
        for (int i = 0; i < m.size(); i++) {
            for (int k = 0; k < 2; k++) {
                int[] bath = m.bath(full, i, k == 1);
                due(text, "bath(" + i + ", " + k + ", 0)", x.bath(i, k == 1, 0), bath == null ? -2 : bath[0]);
                due(text, "bath(" + i + ", " + k + ", 1)", x.bath(i, k == 1, 1), bath == null ? -2 : bath[1]);
            }
        }
    }

    private static void wish(String text, BathNight x, Model m) {
        if (m.size() > 1) {
            int k = some(0, m.size() - 1);
            int i = some(0, m.size() - 1);
            due(text, "row(" + k + ", " + i + ")", x.row(k, i), m.row.get(k));
            Collections.swap(m.row, k, m.row.indexOf(i));
        }
        int hot = some(0, 2) == 0 ? some(0, 99) : some(20, 60);
        due(text, "hot(" + hot + ")", x.hot(hot), m.hot);
        m.hot = hot;
        for (int k = some(0, 4); k > 0; k--) {
            int step = some(0, 3) == 0 ? some(0, 59) : some(0, 15);
            boolean is = some(0, 4) != 0;
            due(text, "plan(" + step + ", " + is + ")", x.plan(step, is), m.plan.contains(step) ? 1 : 0);
            if (is) {
                m.plan.add(step);
            } else {
                m.plan.remove(step);
            }
        }
        int rest = some(0, 9) == 0 ? some(0, 10) : 10;
        for (int d = 0; d < 6; d++) {
            int v = d == 5 ? rest : some(0, rest);
            rest -= v;
            due(text, "tenths(" + d + ", " + v + ")", x.tenths(d, v), m.tenths[d]);
            m.tenths[d] = v;
        }
        due(text, "count(4)", x.count(4), m.plan.size());
    }

    private static void evenings(String text, BathNight x, Model m) {
        for (int rule = 0; rule < 4; rule++) {
            Model.Result r = m.asTold(rule);
            due(text, "score(" + rule + ", 0)", x.score(rule, 0), r.late);
            due(text, "score(" + rule + ", 1)", x.score(rule, 1), r.allDone);
            due(text, "score(" + rule + ", 2)", x.score(rule, 2), r.score);
            for (int k = 0; k < m.layers; k++) {
                due(text, "left(" + rule + ", " + k + ")", x.left(rule, k), r.heats[k]);
            }
            due(text, "left(" + rule + ", 6)", x.left(rule, 6), r.fires);
            due(text, "left(" + rule + ", 7)", x.left(rule, 7), r.stage);
            for (int i = 0; i < m.size(); i++) {
                due(text, "evening(" + rule + ", " + i + ", 0)", x.evening(rule, i, 0), r.went[i]);
                due(text, "evening(" + rule + ", " + i + ", 1)", x.evening(rule, i, 1), r.done[i]);
                due(text, "evening(" + rule + ", " + i + ", 2)", x.evening(rule, i, 2), r.heat[i]);
                due(text, "evening(" + rule + ", " + i + ", 3)", x.evening(rule, i, 3), r.drawn[i]);
            }
        }
    }

    private static void tried(String text, BathNight x, Model m) {
        int rule = some(0, 3);
        int[] when = m.when(rule);
        due(text, "when(" + rule + ", 0)", x.when(rule, 0), when[0]);
        due(text, "when(" + rule + ", 1)", x.when(rule, 1), when[1]);
        for (int k = 0; k < 4; k++) {
            due(text, "bigger(" + rule + ", " + k + ")", x.bigger(rule, k), m.bigger(rule, k));
        }
        for (int k = 0; k < 3; k++) {
            int s = some(0, some(0, 59));
            int n = some(1, some(1, 60));
            int p = some(1, some(1, 99));
            due(text, "tap(" + rule + ", " + s + ", " + n + ", " + p + ")", x.tap(rule, s, n, p), m.tap(rule, s, n, p));
        }
        if (m.size() > 0) {
            int i = some(0, m.size() - 1);
            int[] told = m.told(rule, i);
            due(text, "told(" + rule + ", " + i + ", 0)", x.told(rule, i, 0), told[0]);
            due(text, "told(" + rule + ", " + i + ", 1)", x.told(rule, i, 1), told[1]);
        }
        int[] looks = m.looks();
        due(text, "looks(6)", x.looks(6), looks[m.size()]);
        for (int i = 0; i < m.size(); i++) {
            due(text, "looks(" + i + ")", x.looks(i), looks[i]);
        }
    }

    private static void costly(String text, BathNight x, Model m) {
        int rule = some(0, 3);
        int[] fewest = m.fewest(rule);
        for (int what = 0; what < 3; what++) {
            due(text, "fewest(" + rule + ", " + what + ")", x.fewest(rule, what), fewest[what]);
        }
        List<Integer> best = m.best();
        due(text, "best(-1)", x.best(-1), best.get(m.size()));
        for (int k = 0; k < m.size(); k++) {
            due(text, "best(" + k + ")", x.best(k), best.get(k));
        }
        due(text, "swapped()", x.swapped(), m.swapped());
        for (int k = 0; k < m.size(); k++) {
            int i = m.row.get(k);
            due(text, "row(" + k + ", its own) after swapped()", x.row(k, i), i);
        }
    }
}
