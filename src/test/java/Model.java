import java.util.ArrayList;
import java.util.Arrays;
import java.util.Collections;
import java.util.List;
import java.util.Set;
import java.util.TreeSet;

/**
 * The document's words taken one by one, as slow as they are: pints are counted singly, baths are
 * tried from no pint on, rows are made by recursion. It is what ModelTest holds BathNight against.
 */
final class Model {
    static final int NONE = -4;

    /** What an evening came to. */
    static final class Result {
        int[] went, done, heat, drawn;
        int late, allDone, score, fires, stage;
        int[] heats;
    }

    int layers = 1, pints = 10, cold = 10, first = 10, loss = 0;
    int[] gives = new int[4];
    int[] lasts = {1, 1, 1, 1};
    int fires = 0, cools = 1, kettle = 0, kettleSteps = 1, steps = 40;
    List<int[]> bathers = new ArrayList<>();
    List<Set<Integer>> after = new ArrayList<>();
    List<Set<Integer>> waterOf = new ArrayList<>();

    List<Integer> row = new ArrayList<>();
    int hot = 50;
    Set<Integer> plan = new TreeSet<>();
    int[] tenths = {10, 0, 0, 0, 0, 0};

    int tapFrom, tapSteps, tapPints;
    int[] comes;

    /** Takes a text that has no fault. */
    Model(String text) {
        for (String item : text.split(";")) {
            String[] parts = item.substring(1).split(",");
            int[] x = new int[parts.length];
            for (int k = 0; k < x.length; k++) {
                x[k] = Integer.parseInt(parts[k]);
            }
            take(item.charAt(0), x);
        }
        for (int i = 0; i < bathers.size(); i++) {
            row.add(i);
        }
    }

    private void take(char letter, int[] x) {
        switch (letter) {
            case 't' -> {
                layers = x[0];
                pints = x[1];
                cold = x[2];
                first = x[3];
                loss = x[4];
            }
            case 'f' -> {
                gives[x[0]] = x[1];
                lasts[x[0]] = x[2];
            }
            case 'c' -> fires = x[0];
            case 'b' -> {
                bathers.add(x);
                after.add(new TreeSet<>());
                waterOf.add(new TreeSet<>());
            }
            case 'a' -> after.get(x[0]).add(x[1]);
            case 's' -> waterOf.get(x[0]).add(x[1]);
            case 'q' -> cools = x[0];
            case 'k' -> {
                kettle = x[0];
                kettleSteps = x[1];
            }
            default -> steps = x[0];
        }
    }

    int size() {
        return bathers.size();
    }

    int[] fullTank() {
        int[] units = new int[layers];
        Arrays.fill(units, first * pints);
        return units;
    }

    int drawnUnits(int[] units, int h) {
        int[] counts = new int[units.length];
        for (int p = 0; p < h; p++) {
            counts[p / pints]++;
        }
        int sum = 0;
        for (int k = 0; k < units.length; k++) {
            sum += counts[k] == pints ? units[k] : units[k] * counts[k] / pints;
        }
        return sum;
    }

    int[] afterDrawing(int[] units, int h) {
        int[] now = new int[units.length];
        for (int j = 0; j < units.length; j++) {
            int[] counts = new int[units.length];
            for (int p = pints * j + h; p < pints * j + pints + h; p++) {
                if (p / pints < units.length) {
                    counts[p / pints]++;
                } else {
                    now[j] += cold;
                }
            }
            for (int k = 0; k < units.length; k++) {
                now[j] += counts[k] == pints ? units[k] : units[k] * counts[k] / pints;
            }
        }
        return now;
    }

    /** Pints, heat and kettle pints of a bath; null if it can't be had. */
    int[] bath(int[] units, int i, boolean kettleHot) {
        int[] b = bathers.get(i);
        int g = kettleHot && kettle <= b[0] ? kettle : 0;
        for (int h = 0; h <= b[0] - g && h <= units.length * pints; h++) {
            int heat = (drawnUnits(units, h) + 100 * g + cold * (b[0] - g - h)) / b[0];
            if (heat >= b[1]) {
                return heat <= b[2] ? new int[] {h, heat, g} : null;
            }
        }
        return null;
    }

    Result evening(int rule) {
        int n = size();
        Result r = new Result();
        r.went = new int[n];
        r.done = new int[n];
        r.heat = new int[n];
        r.drawn = new int[n];
        Arrays.fill(r.went, NONE);
        Arrays.fill(r.done, NONE);
        Arrays.fill(r.heat, NONE);
        Arrays.fill(r.drawn, NONE);
        int[] units = fullTank();
        int left = fires;
        int stage = 0;
        int stageSince = 0;
        int kettleSince = 0;
        List<Integer> were = new ArrayList<>();
        for (int t = 0; t < steps; t++) {
            if (plan.contains(t) && left > 0) {
                left--;
                stage = 3;
                stageSince = t;
            }
            int ahead = were.isEmpty() ? -1 : were.get(were.size() - 1);
            if (ahead == -1 || r.done[ahead] <= t) {
                int who = -1;
                int[] what = null;
                for (int i = 0; i < n; i++) {
                    boolean can = comes[i] <= t && !were.contains(i);
                    for (int other : after.get(i)) {
                        can = can && r.done[other] != NONE && r.done[other] <= t;
                    }
                    if (!can) {
                        continue;
                    }
                    int[] bath = null;
                    boolean water = false;
                    if (ahead != -1 && r.done[ahead] == t && waterOf.get(i).contains(ahead)) {
                        int heat = r.heat[ahead] - cools * bathers.get(ahead)[3];
                        if (heat >= bathers.get(i)[1] && heat <= bathers.get(i)[2]) {
                            bath = new int[] {0, heat, 0};
                            water = true;
                        }
                    }
                    if (bath == null) {
                        bath = bath(units, i, t - kettleSince >= kettleSteps);
                    }
                    if (bath == null) {
                        continue;
                    }
                    boolean takes = false;
                    if (rule == 0) {
                        takes = row.get(were.size()) == i;
                    } else if (rule == 1 || rule == 2 && (water || units[0] / pints >= hot)) {
                        takes = who == -1 || comes[i] < comes[who];
                    } else if (rule == 3) {
                        takes = who == -1 || bathers.get(i)[0] < bathers.get(who)[0];
                    }
                    if (takes) {
                        who = i;
                        what = bath;
                    }
                }
                if (who != -1) {
                    units = afterDrawing(units, what[0]);
                    if (what[2] > 0) {
                        kettleSince = t;
                    }
                    r.went[who] = t;
                    r.done[who] = t + bathers.get(who)[3];
                    r.heat[who] = what[1];
                    r.drawn[who] = what[0];
                    were.add(who);
                }
            }
            if (t >= tapFrom && t < tapFrom + tapSteps) {
                units = afterDrawing(units, Math.min(tapPints, layers * pints));
            }
            units[layers - 1] += stage == 0 ? 0 : gives[stage];
            for (int k = layers - 1; k > 0; k--) {
                if (units[k] > units[k - 1]) {
                    int both = units[k] + units[k - 1];
                    units[k] = both / 2;
                    units[k - 1] = both / 2 + both % 2;
                }
            }
            for (int k = 0; k < layers; k++) {
                for (int w = 0; w < loss && units[k] > cold * pints; w++) {
                    units[k]--;
                }
            }
            if (stage > 0 && t + 1 - stageSince == lasts[stage]) {
                stage--;
                stageSince = t + 1;
            }
        }
        r.fires = left;
        r.stage = stage;
        r.heats = new int[layers];
        for (int k = 0; k < layers; k++) {
            r.heats[k] = units[k] / pints;
        }
        for (int i = 0; i < n; i++) {
            if (r.done[i] == NONE) {
                r.late++;
                r.allDone = 99;
            } else {
                r.late += r.done[i] > bathers.get(i)[5] ? 1 : 0;
                r.allDone = Math.max(r.allDone, r.done[i]);
            }
        }
        r.score = 100 * r.late + r.allDone;
        return r;
    }

    Result asTold(int rule) {
        comes = new int[size()];
        for (int i = 0; i < size(); i++) {
            comes[i] = bathers.get(i)[4];
        }
        return evening(rule);
    }

    /** The rows of those who are left behind the ones that stand, by numbers. */
    private void rows(List<Integer> standing, List<List<Integer>> all) {
        if (standing.size() == size()) {
            all.add(new ArrayList<>(standing));
        }
        for (int i = 0; i < size(); i++) {
            if (!standing.contains(i)) {
                standing.add(i);
                rows(standing, all);
                standing.remove(standing.size() - 1);
            }
        }
    }

    /** The best row, and its score behind it. */
    List<Integer> best() {
        List<List<Integer>> all = new ArrayList<>();
        rows(new ArrayList<>(), all);
        List<Integer> was = row;
        List<Integer> best = null;
        int least = 0;
        for (List<Integer> one : all) {
            row = one;
            int score = asTold(0).score;
            if (best == null || score < least) {
                best = one;
                least = score;
            }
        }
        row = was;
        List<Integer> answer = new ArrayList<>(best);
        answer.add(least);
        return answer;
    }

    int swapped() {
        int changes = 0;
        boolean again = true;
        while (again) {
            again = false;
            int score = asTold(0).score;
            for (int k = 0; k + 1 < size() && !again; k++) {
                Collections.swap(row, k, k + 1);
                if (asTold(0).score < score) {
                    again = true;
                    changes++;
                } else {
                    Collections.swap(row, k, k + 1);
                }
            }
        }
        return changes;
    }

    int[] when(int rule) {
        int[] best = {NONE, NONE};
        fires++;
        for (int t = steps - 1; t >= 0; t--) {
            if (plan.add(t)) {
                int score = asTold(rule).score;
                if (best[0] == NONE || score <= best[1]) {
                    best = new int[] {t, score};
                }
                plan.remove(t);
            }
        }
        fires--;
        return best;
    }

    int[] fewest(int rule) {
        Set<Integer> was = plan;
        int[] best = {NONE, NONE, NONE};
        for (int many = 0; many <= 2 && best[0] == NONE; many++) {
            for (int a = 0; a < (many < 1 ? 1 : steps) && best[0] == NONE; a++) {
                for (int b = 0; b < (many < 2 ? 1 : steps) && best[0] == NONE; b++) {
                    plan = new TreeSet<>();
                    if (many > 0) {
                        plan.add(a);
                    }
                    if (many > 1) {
                        plan.add(b);
                    }
                    if (asTold(rule).late == 0) {
                        best = new int[] {many, many < 1 ? NONE : a, many < 2 ? NONE : b};
                    }
                }
            }
        }
        plan = was;
        return best;
    }

    int bigger(int rule, int k) {
        if (k == 0 && layers == 6) {
            return -2;
        }
        int wasLoss = loss;
        int wasKettle = kettle;
        int[] wasGives = gives.clone();
        int wasLayers = layers;
        if (k == 0) {
            layers++;
        } else if (k == 1) {
            loss = loss / 2;
        } else if (k == 2) {
            for (int s = 1; s < 4; s++) {
                gives[s] = gives[s] * 11 / 10;
            }
        } else {
            kettle = Math.min(30, kettle + 10);
        }
        int score = asTold(rule).score;
        loss = wasLoss;
        kettle = wasKettle;
        gives = wasGives;
        layers = wasLayers;
        return score;
    }

    int tap(int rule, int s, int n, int p) {
        tapFrom = s;
        tapSteps = n;
        tapPints = p;
        int score = asTold(rule).score;
        tapSteps = 0;
        return score;
    }

    int[] told(int rule, int i) {
        int together = 0;
        for (int v : tenths) {
            together += v;
        }
        if (together != 10) {
            return new int[] {-2, -2};
        }
        int[] best = {NONE, NONE};
        asTold(rule);
        for (int b = bathers.get(i)[4]; b >= 0; b--) {
            int sum = 0;
            for (int d = 0; d < 6; d++) {
                comes[i] = b + d;
                sum += tenths[d] * evening(rule).score;
            }
            if (best[0] == NONE || sum < best[1]) {
                best = new int[] {b, sum};
            }
        }
        return best;
    }

    /** The x of each and the rounds behind them; NONE of all if 12 are not enough. */
    int[] looks() {
        int n = size();
        int[] x = new int[n + 1];
        asTold(1);
        for (int round = 1; round <= 12; round++) {
            int[] before = x.clone();
            for (int i = 0; i < n; i++) {
                int[] pains = new int[6];
                int best = 0;
                for (int y = 0; y < 6; y++) {
                    comes[i] = bathers.get(i)[4] + y;
                    Result r = evening(1);
                    pains[y] = (r.done[i] == NONE ? 99 : r.done[i]) + (r.went[i] == NONE ? 99 : r.went[i] - comes[i]);
                    if (pains[y] < pains[best]) {
                        best = y;
                    }
                }
                x[i] = best;
                comes[i] = bathers.get(i)[4] + best;
            }
            if (Arrays.equals(before, x)) {
                x[n] = round;
                return x;
            }
        }
        Arrays.fill(x, NONE);
        return x;
    }
}
