import java.util.ArrayList;
import java.util.Collections;
import java.util.List;
import java.util.TreeSet;
import java.util.regex.Matcher;
import java.util.regex.Pattern;

/**
 * Runs of calls of all kinds, good and wrong, in the order in which a fixed row of numbers brings
 * them, each answer held against the words of the document: its state is kept here, its evenings are
 * Model's. No object is used for more than 512 calls.
 */
public final class RunTest {
    private static final int BAD = BathNight.BAD, NO = BathNight.NO, FULL = BathNight.FULL, NONE = BathNight.NONE;
    private static final Pattern ITEM = Pattern.compile("([a-z])([0-9]{1,4}(?:,[0-9]{1,4})*);");

    /** ROW, X, PLAN and tenths as they were when they were KEPT. */
    private static final class Wishes {
        final List<Integer> row;
        final int hot;
        final TreeSet<Integer> plan;
        final int[] tenths;

        Wishes(Model m) {
            row = new ArrayList<>(m.row);
            hot = m.hot;
            plan = new TreeSet<>(m.plan);
            tenths = m.tenths.clone();
        }

        void putInto(Model m) {
            m.row = new ArrayList<>(row);
            m.hot = hot;
            m.plan = new TreeSet<>(plan);
            m.tenths = tenths.clone();
        }
    }

    private final BathNight x = new BathNight();
    private final StringBuilder text = new StringBuilder();
    private final StringBuilder told = new StringBuilder("new");
    private Model m = new Model("t1,10,10,10,0;");
    private final List<Wishes> kept = new ArrayList<>();
    private int calls;

    private RunTest() {
    }

    public static void main(String[] args) {
        int runs = args.length > 0 ? Integer.parseInt(args[0]) : 40;
        for (int k = 0; k < runs; k++) {
            RunTest run = new RunTest();
            while (run.calls < 440) {
                run.one();
            }
        }
        Check.end();
    }

    private static int some(int low, int high) {
        return ModelTest.some(low, high);
    }

    /** A number of low to high, seldom one a little or far outside of it. */
    private static int about(int low, int high) {
        switch (some(0, 24)) {
            case 0: return low - 1;
            case 1: return high + 1;
            case 2: return some(0, 1) == 0 ? some(-99999, 99999) : some(0, 1) == 0 ? Integer.MIN_VALUE : Integer.MAX_VALUE;
            default: return high < low ? some(low - 1, low) : some(low, high);
        }
    }

    private static boolean in(int n, int low, int high) {
        return n >= low && n <= high;
    }

    private boolean who(int i) {
        return in(i, 0, m.size() - 1);
    }

    private void due(String call, int got, int want) {
        calls++;
        told.append(' ').append(call);
        if (got != want) {
            Check.due(told + " in " + text, got, want);
        } else {
            Check.due(call, got, want);
        }
    }

    private void one() {
        int kind = some(0, 99);
        if (kind < 2) {
            tellAndLay();
        } else if (kind < 8) {
            texts();
        } else if (kind < 28) {
            houses();
        } else if (kind < 50) {
            wishes();
        } else if (kind < 75) {
            evenings();
        } else if (kind < 98) {
            better();
        } else {
            costly();
        }
    }

    /** The place of the first item that is not so, by a pattern of items and the bounds of their numbers. */
    static int faultOf(String text) {
        Matcher item = ITEM.matcher(text);
        int place = 0;
        int bathers = 0;
        while (place < text.length()) {
            item.region(place, text.length());
            if (!item.lookingAt()) {
                return place;
            }
            String[] parts = item.group(2).split(",");
            int[] n = new int[parts.length];
            for (int k = 0; k < n.length; k++) {
                n[k] = Integer.parseInt(parts[k]);
            }
            char letter = item.group(1).charAt(0);
            if (!isSo(letter, n, bathers) || (letter == 't') != (place == 0)) {
                return place;
            }
            bathers += letter == 'b' ? 1 : 0;
            place = item.end();
        }
        return place == 0 ? 0 : NONE;
    }

    private static boolean isSo(char letter, int[] n, int bathers) {
        int many = "cqn".indexOf(letter) >= 0 ? 1 : "ask".indexOf(letter) >= 0 ? 2 : letter == 'f' ? 3 : letter == 't' ? 5 : letter == 'b' ? 6 : -1;
        if (n.length != many) {
            return false;
        }
        switch (letter) {
            case 't': return in(n[0], 1, 6) && in(n[1], 1, 60) && in(n[2], 0, 40) && in(n[3], n[2], 95) && in(n[4], 0, 999);
            case 'f': return in(n[0], 1, 3) && in(n[2], 1, 30);
            case 'b': return bathers < 6 && in(n[0], 1, 99) && n[1] <= n[2] && n[2] <= 99 && in(n[3], 1, 20) && n[4] <= 60 && n[5] <= 99;
            case 'k': return n[0] <= 20 && in(n[1], 1, 30);
            case 'n': return in(n[0], 1, 60);
            case 'c':
            case 'q': return n[0] <= 9;
            default: return n[0] < bathers && n[1] < bathers && n[0] != n[1];
        }
    }

    private void write(int n, long v) {
        int want = !in(n, 1, 8) ? BAD : text.length() + n > 400 ? FULL : text.length() + n;
        if (want > 0) {
            for (int k = n - 1; k >= 0; k--) {
                text.append((char) (v >>> 8 * k & 0xff));
            }
        }
        due("write(" + n + ", " + v + ")", x.write(n, v), want);
    }

    private void wipe() {
        int was = text.length();
        text.setLength(0);
        due("wipe()", x.wipe(), was);
    }

    private void lay() {
        if (faultOf(text.toString()) != NONE) {
            due("lay()", x.lay(), NO);
            return;
        }
        m = new Model(text.toString());
        kept.clear();
        due("lay()", x.lay(), m.size());
    }

    private void tellAndLay() {
        wipe();
        String whole = ModelTest.someText();
        if (some(0, 3) == 0) {
            int at = some(0, whole.length() - 1);
            whole = whole.substring(0, at) + (char) some(some(0, 1) * 44, some(0, 1) == 0 ? 122 : 255) + whole.substring(at + some(0, 1));
        }
        for (int at = 0; at < whole.length(); at += 8) {
            long v = some(0, 1) - 1;
            int n = Math.min(8, whole.length() - at);
            for (int k = 0; k < n; k++) {
                v = v << 8 | whole.charAt(at + k);
            }
            write(n, v);
        }
        due("fault()", x.fault(), faultOf(text.toString()));
        lay();
    }

    private void texts() {
        switch (some(0, 5)) {
            case 0: write(about(1, 8), (long) some(0, Integer.MAX_VALUE) << 32 | some(0, Integer.MAX_VALUE)); break;
            case 1: write(3, 0x6e353b); break;
            case 2: lay(); break;
            case 3: due("count(3)", x.count(3), text.length()); break;
            default: due("fault()", x.fault(), faultOf(text.toString()));
        }
    }

    private void houses() {
        int i = about(0, m.size() - 1);
        int what = about(0, 7);
        switch (some(0, 3)) {
            case 0: {
                int want = BAD;
                if (who(i) && in(what, 0, 7)) {
                    want = what < 6 ? m.bathers.get(i)[what] : 0;
                    for (int j : what < 6 ? new TreeSet<Integer>() : what == 6 ? m.after.get(i) : m.waterOf.get(i)) {
                        want |= 1 << j;
                    }
                }
                due("bather(" + i + ", " + what + ")", x.bather(i, what), want);
                break;
            }
            case 1: {
                int h = about(0, m.layers * m.pints);
                int layer = about(-1, m.layers - 1);
                int want = BAD;
                if (in(h, 0, m.layers * m.pints) && in(layer, -1, m.layers - 1)) {
                    want = layer == -1 ? m.drawnUnits(m.fullTank(), h) : m.afterDrawing(m.fullTank(), h)[layer];
                }
                due("drawn(" + h + ", " + layer + ")", x.drawn(h, layer), want);
                break;
            }
            case 2: {
                boolean kettle = some(0, 1) == 0;
                what = about(0, 1);
                int want = BAD;
                if (who(i) && in(what, 0, 1)) {
                    int[] bath = m.bath(m.fullTank(), i, kettle);
                    want = bath == null ? NO : bath[what];
                }
                due("bath(" + i + ", " + kettle + ", " + what + ")", x.bath(i, kettle, what), want);
                break;
            }
            default: {
                what = about(0, 6);
                int[] counts = {m.size(), m.layers, m.steps, text.length(), m.plan.size(), kept.size(), m.fires};
                due("count(" + what + ")", x.count(what), in(what, 0, 6) ? counts[what] : BAD);
            }
        }
    }

    private void wishes() {
        switch (some(0, 7)) {
            case 0: {
                int k = about(0, m.size() - 1);
                int i = about(0, m.size() - 1);
                int want = BAD;
                if (who(k) && who(i)) {
                    want = m.row.get(k);
                    Collections.swap(m.row, k, m.row.indexOf(i));
                }
                due("row(" + k + ", " + i + ")", x.row(k, i), want);
                break;
            }
            case 1: {
                int hot = about(0, some(0, 1) == 0 ? 99 : 60);
                int want = in(hot, 0, 99) ? m.hot : BAD;
                m.hot = want == BAD ? m.hot : hot;
                due("hot(" + hot + ")", x.hot(hot), want);
                break;
            }
            case 2:
            case 3: {
                int step = about(0, some(0, 3) == 0 ? 59 : 12);
                boolean is = some(0, 2) != 0;
                int want = !in(step, 0, 59) ? BAD : m.plan.contains(step) ? 1 : 0;
                if (want != BAD && is) {
                    m.plan.add(step);
                } else {
                    m.plan.remove(step);
                }
                due("plan(" + step + ", " + is + ")", x.plan(step, is), want);
                break;
            }
            case 4:
            case 5: {
                int d = about(0, 5);
                int v = about(0, 10);
                int rest = 10;
                for (int k = 0; k < 6; k++) {
                    rest -= k == d ? 0 : m.tenths[k];
                }
                v = some(0, 1) == 0 && rest >= 0 ? rest : v;
                int want = in(d, 0, 5) && in(v, 0, 10) ? m.tenths[d] : BAD;
                if (want != BAD) {
                    m.tenths[d] = v;
                }
                due("tenths(" + d + ", " + v + ")", x.tenths(d, v), want);
                break;
            }
            case 6: {
                int want = kept.size() < 2 ? kept.size() + 1 : FULL;
                if (want != FULL) {
                    kept.add(new Wishes(m));
                }
                due("keep()", x.keep(), want);
                break;
            }
            default: {
                int want = kept.size() - 1;
                if (want >= 0) {
                    kept.remove(want).putInto(m);
                }
                due("back()", x.back(), want < 0 ? NO : want);
            }
        }
    }

    private void evenings() {
        int rule = about(0, 3);
        boolean ruled = in(rule, 0, 3);
        Model.Result r = m.asTold(ruled ? rule : 0);
        switch (some(0, 2)) {
            case 0: {
                int i = about(0, m.size() - 1);
                int what = about(0, 3);
                int want = BAD;
                if (ruled && who(i) && in(what, 0, 3)) {
                    want = (what == 0 ? r.went : what == 1 ? r.done : what == 2 ? r.heat : r.drawn)[i];
                }
                due("evening(" + rule + ", " + i + ", " + what + ")", x.evening(rule, i, what), want);
                break;
            }
            case 1: {
                int what = about(0, 2);
                int[] parts = {r.late, r.allDone, r.score};
                due("score(" + rule + ", " + what + ")", x.score(rule, what), ruled && in(what, 0, 2) ? parts[what] : BAD);
                break;
            }
            default: {
                int what = about(0, 7);
                boolean layer = in(what, 0, m.layers - 1);
                int want = !ruled || !layer && what != 6 && what != 7 ? BAD : layer ? r.heats[what] : what == 6 ? r.fires : r.stage;
                due("left(" + rule + ", " + what + ")", x.left(rule, what), want);
            }
        }
    }

    private void better() {
        int rule = about(0, 3);
        boolean ruled = in(rule, 0, 3);
        switch (some(0, 5)) {
            case 0: {
                int what = about(0, 1);
                due("when(" + rule + ", " + what + ")", x.when(rule, what), ruled && in(what, 0, 1) ? m.when(rule)[what] : BAD);
                break;
            }
            case 1: {
                int k = about(0, 3);
                due("bigger(" + rule + ", " + k + ")", x.bigger(rule, k), ruled && in(k, 0, 3) ? m.bigger(rule, k) : BAD);
                break;
            }
            case 2: {
                int s = about(0, some(0, 1) == 0 ? 59 : 9);
                int n = about(1, some(0, 1) == 0 ? 60 : 9);
                int p = about(1, some(0, 1) == 0 ? 99 : 9);
                boolean so = ruled && in(s, 0, 59) && in(n, 1, 60) && in(p, 1, 99);
                due("tap(" + rule + ", " + s + ", " + n + ", " + p + ")", x.tap(rule, s, n, p), so ? m.tap(rule, s, n, p) : BAD);
                break;
            }
            case 3: {
                int i = about(0, m.size() - 1);
                int what = about(0, 1);
                boolean so = ruled && who(i) && in(what, 0, 1);
                due("told(" + rule + ", " + i + ", " + what + ")", x.told(rule, i, what), so ? m.told(rule, i)[what] : BAD);
                break;
            }
            case 4: {
                int what = some(0, 2) == 0 ? 6 : about(0, m.size() - 1);
                int want = what == 6 ? m.looks()[m.size()] : who(what) ? m.looks()[what] : BAD;
                due("looks(" + what + ")", x.looks(what), want);
                break;
            }
            default: {
                int was = m.swapped();
                due("swapped()", x.swapped(), was);
            }
        }
    }

    private void costly() {
        if (some(0, 1) == 0) {
            int k = about(-1, m.size() - 1);
            int want = BAD;
            if (in(k, -1, m.size() - 1)) {
                List<Integer> best = m.best();
                want = best.get(k == -1 ? m.size() : k);
            }
            due("best(" + k + ")", x.best(k), want);
        } else {
            int rule = about(0, 3);
            int what = about(0, 2);
            due("fewest(" + rule + ", " + what + ")", x.fewest(rule, what), in(rule, 0, 3) && in(what, 0, 2) ? m.fewest(rule)[what] : BAD);
        }
    }
}
