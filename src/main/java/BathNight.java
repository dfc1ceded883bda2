/**
 * Bath night: a tank in layers over a fire, and those who want to bathe from it, step by step by
 * rules. A text tells the house; calls ask how an evening goes in it, and how it would go better.
 */
public final class BathNight {
    public static final int BAD = -1, NO = -2, FULL = -3, NONE = -4;

    private static final int ROW = 0, DOOR = 1, HOT = 2, SMALL = 3;
    private static final int MOST_BYTES = 400;
    private static final int MOST_LAYERS = 6;
    private static final int MOST_BATHERS = 6;
    private static final int MOST_STEPS = 60;
    private static final int MOST_KEPT = 2;
    private static final int MOST_DELAY = 5;
    private static final int MOST_ROUNDS = 12;
    private static final int LAST_STAGE = 3;
    private static final int NEVER = 99;
    private static final int TENTHS = 10;
    private static final int ROWS_OF_ALL = 720;
    private static final int FAR_ABOVE = 1000000;

    private final byte[] text = new byte[MOST_BYTES];
    private int length;
    private final Item item = new Item();
    private House house = new House();
    private House spare = new House();
    private final Wishes wishes = new Wishes();
    private final Wishes[] kept = {new Wishes(), new Wishes()};
    private int keeps;
    private final Asked asked = new Asked();
    private final Evening night = new Evening();
    private final int[] bestRow = new int[MOST_BATHERS];

    public BathNight() {
    }

    // ---- houses

    public int write(int n, long v) {
        if (n < 1 || n > 8) {
            return BAD;
        }
        if (length + n > text.length) {
            return FULL;
        }
        for (int k = n - 1; k >= 0; k--) {
            text[length] = (byte) (v >> (8 * k));
            length++;
        }
        return length;
    }

    public int wipe() {
        int was = length;
        length = 0;
        return was;
    }

    public int fault() {
        spare.clear();
        if (length == 0) {
            return 0;
        }
        int place = 0;
        while (place < length) {
            int behind = item.readFrom(text, length, place);
            if (behind <= place || !spare.takes(item)) {
                return place;
            }
            place = behind;
        }
        return NONE;
    }

    public int lay() {
        if (fault() != NONE) {
            return NO;
        }
        House read = spare;
        spare = house;
        house = read;
        wishes.clear();
        keeps = 0;
        return house.count;
    }

    public int bather(int i, int what) {
        Bather who = house.who(i);
        if (who == null || what < 0 || what > 7) {
            return BAD;
        }
        return who.toldOf(what);
    }

    public int drawn(int h, int layer) {
        Tank tank = night.tank;
        tank.fill(house);
        if (h < 0 || h > tank.holds() || layer < -1 || layer >= house.layers) {
            return BAD;
        }
        if (layer == -1) {
            return tank.unitsOfTop(h);
        }
        tank.draw(h);
        return tank.unitsIn(layer);
    }

    public int bath(int i, boolean kettle, int what) {
        Bather who = house.who(i);
        if (who == null || what < 0 || what > 1) {
            return BAD;
        }
        night.tank.fill(house);
        if (!night.bath.comesFrom(night.tank, who, kettle ? house.kettle : 0)) {
            return NO;
        }
        return what == 0 ? night.bath.pints : night.bath.heat;
    }

    // ---- evenings

    public int row(int k, int i) {
        int[] row = wishes.row;
        if (house.who(i) == null || house.who(k) == null || k >= row.length) {
            return BAD;
        }
        int there = row[k];
        for (int at = 0; at < row.length; at++) {
            if (row[at] == i) {
                row[at] = there;
            }
        }
        row[k] = i;
        return there;
    }

    public int hot(int x) {
        if (x < 0 || x > 99) {
            return BAD;
        }
        int was = wishes.hot;
        wishes.hot = x;
        return was;
    }

    public int plan(int step, boolean is) {
        if (step < 0 || step >= MOST_STEPS) {
            return BAD;
        }
        long bit = 1L << step;
        int was = (wishes.plan & bit) != 0 ? 1 : 0;
        wishes.plan = is ? wishes.plan | bit : wishes.plan & ~bit;
        return was;
    }

    public int evening(int rule, int i, int what) {
        Bather who = house.who(i);
        if (!isRule(rule) || who == null || what < 0 || what > 3) {
            return BAD;
        }
        ask(rule);
        night.run(house, asked);
        switch (what) {
            case 0: return who.went;
            case 1: return who.done;
            case 2: return who.heat;
            default: return who.drew;
        }
    }

    public int score(int rule, int what) {
        if (!isRule(rule) || what < 0 || what > 2) {
            return BAD;
        }
        ask(rule);
        int score = night.run(house, asked);
        // DONE is two figures at most, so that a SCORE shows both of its parts
        switch (what) {
            case 0: return score / 100;
            case 1: return score % 100;
            default: return score;
        }
    }

    public int left(int rule, int what) {
        if (!isRule(rule) || what < 0 || what > 7 || what < 6 && what >= house.layers) {
            return BAD;
        }
        ask(rule);
        night.run(house, asked);
        switch (what) {
            case 6: return night.fire.times;
            case 7: return night.fire.stage;
            default: return night.tank.heatOf(what);
        }
    }

    // ---- better

    public int best(int k) {
        if (k < -1 || k >= house.count || k >= bestRow.length) {
            return BAD;
        }
        ask(ROW);
        asked.rowByNumbers();
        int least = night.run(house, asked);
        asked.copyRowTo(bestRow);
        for (int tried = 1; tried < ROWS_OF_ALL && asked.nextRow(house.count); tried++) {
            int score = night.run(house, asked);
            if (score < least) {
                least = score;
                asked.copyRowTo(bestRow);
            }
        }
        return k == -1 ? least : bestRow[k];
    }

    public int swapped() {
        ask(ROW);
        int score = night.run(house, asked);
        int changes = 0;
        int k = 0;
        for (int tried = 0; tried < FAR_ABOVE && k + 1 < house.count; tried++) {
            asked.changePlaces(k, k + 1);
            int other = night.run(house, asked);
            if (other < score) {
                score = other;
                changes++;
                k = 0;
            } else {
                asked.changePlaces(k, k + 1);
                k++;
            }
        }
        asked.copyRowTo(wishes.row);
        return changes;
    }

    public int when(int rule, int what) {
        if (!isRule(rule) || what < 0 || what > 1) {
            return BAD;
        }
        ask(rule);
        asked.fires = house.fires + 1;
        int step = NONE;
        int least = NONE;
        for (int t = 0; t < house.steps; t++) {
            asked.plan = wishes.plan | 1L << t;
            if (asked.plan == wishes.plan) {
                continue;
            }
            int score = night.run(house, asked);
            if (step == NONE || score < least) {
                step = t;
                least = score;
            }
        }
        return what == 0 ? step : least;
    }

    public int fewest(int rule, int what) {
        if (!isRule(rule) || what < 0 || what > 2) {
            return BAD;
        }
        ask(rule);
        if (nobodyLate(0L)) {
            return what == 0 ? 0 : NONE;
        }
        for (int first = 0; first < house.steps; first++) {
            if (nobodyLate(1L << first)) {
                return what == 0 ? 1 : what == 1 ? first : NONE;
            }
        }
        for (int first = 0; first < house.steps; first++) {
            for (int second = first + 1; second < house.steps; second++) {
                if (nobodyLate(1L << first | 1L << second)) {
                    return what == 0 ? 2 : what == 1 ? first : second;
                }
            }
        }
        return NONE;
    }

    public int bigger(int rule, int k) {
        if (!isRule(rule) || k < 0 || k > 3) {
            return BAD;
        }
        if (k == 0 && house.layers >= MOST_LAYERS) {
            return NO;
        }
        ask(rule);
        spare.becomeLike(house);
        spare.grow(k);
        return night.run(spare, asked);
    }

    public int tap(int rule, int s, int n, int p) {
        if (!isRule(rule) || s < 0 || s > 59 || n < 1 || n > 60 || p < 1 || p > 99) {
            return BAD;
        }
        ask(rule);
        asked.tapFrom = s;
        asked.tapSteps = n;
        asked.tapPints = p;
        return night.run(house, asked);
    }

    public int tenths(int d, int v) {
        if (d < 0 || d >= wishes.tenths.length || v < 0 || v > TENTHS) {
            return BAD;
        }
        int was = wishes.tenths[d];
        wishes.tenths[d] = v;
        return was;
    }

    public int told(int rule, int i, int what) {
        Bather who = house.who(i);
        if (!isRule(rule) || who == null || what < 0 || what > 1) {
            return BAD;
        }
        if (wishes.sumOfTenths() != TENTHS) {
            return NO;
        }
        ask(rule);
        int step = NONE;
        int least = NONE;
        for (int b = 0; b <= who.from; b++) {
            int sum = sumToldAt(who, b);
            if (step == NONE || sum <= least) {
                step = b;
                least = sum;
            }
        }
        return what == 0 ? step : least;
    }

    public int looks(int what) {
        Bather asker = house.who(what);
        if (asker == null && what != 6) {
            return BAD;
        }
        ask(DOOR);
        boolean another = true;
        int rounds = 0;
        while (another && rounds < MOST_ROUNDS) {
            another = false;
            rounds++;
            for (int i = 0; i < house.count; i++) {
                Bather who = house.who(i);
                if (who != null) {
                    int before = who.comes;
                    who.comes = bestToCome(who);
                    another = another || who.comes != before;
                }
            }
        }
        if (another) {
            return NONE;
        }
        return asker == null ? rounds : asker.comes - asker.from;
    }

    public int keep() {
        if (keeps < 0 || keeps >= MOST_KEPT || keeps >= kept.length) {
            return FULL;
        }
        kept[keeps].becomeLike(wishes);
        keeps++;
        return keeps;
    }

    public int back() {
        if (keeps < 1 || keeps > kept.length) {
            return NO;
        }
        keeps--;
        wishes.becomeLike(kept[keeps]);
        return keeps;
    }

    public int count(int what) {
        switch (what) {
            case 0: return house.count;
            case 1: return house.layers;
            case 2: return house.steps;
            case 3: return length;
            case 4: return Long.bitCount(wishes.plan);
            case 5: return keeps;
            case 6: return house.fires;
            default: return BAD;
        }
    }

    private static boolean isRule(int rule) {
        return rule >= ROW && rule <= SMALL;
    }

    /** The evening to be asked for is one by a rule, all else being as it stands. */
    private void ask(int rule) {
        asked.become(rule, wishes, house.fires);
        house.allComeAsTold();
    }

    private boolean nobodyLate(long plan) {
        asked.plan = plan;
        // one LATE is 100 of the SCORE, and DONE is less than that
        return night.run(house, asked) < 100;
    }

    private int sumToldAt(Bather who, int step) {
        int sum = 0;
        for (int d = 0; d < wishes.tenths.length; d++) {
            int tenths = wishes.tenths[d];
            if (tenths > 0) {
                who.comes = step + d;
                sum += tenths * night.run(house, asked);
            }
        }
        return sum;
    }

    /** The STEP at which a bather comes best, the others coming as they do. */
    private int bestToCome(Bather who) {
        int best = who.from;
        int least = 0;
        for (int x = 0; x <= MOST_DELAY; x++) {
            who.comes = who.from + x;
            night.run(house, asked);
            int pains = who.went == NONE ? NEVER + NEVER : who.done + who.went - who.comes;
            if (x == 0 || pains < least) {
                best = who.comes;
                least = pains;
            }
        }
        return best;
    }

    /** One item of a text: its letter and its numbers. */
    private static final class Item {
        private static final int MOST_FIGURES = 4;

        private final int[] numbers = new int[6];
        private int letter;
        private int many;

        /** Reads the item at a place: the place behind it, NONE if it has not an item's form. */
        int readFrom(byte[] text, int length, int place) {
            many = 0;
            if (place < 0 || place >= text.length) {
                return NONE;
            }
            letter = text[place];
            int value = 0;
            int figures = 0;
            for (int i = place + 1; i < length && i < text.length; i++) {
                int sign = text[i];
                if (sign >= '0' && sign <= '9') {
                    value = 10 * value + sign - '0';
                    figures++;
                    if (figures > MOST_FIGURES) {
                        return NONE;
                    }
                } else if ((sign == ',' || sign == ';') && figures > 0 && many < numbers.length) {
                    numbers[many] = value;
                    many++;
                    if (sign == ';') {
                        return i + 1;
                    }
                    value = 0;
                    figures = 0;
                } else {
                    return NONE;
                }
            }
            return NONE;
        }

        int number(int k) {
            return k < 0 || k >= many || k >= numbers.length ? NONE : numbers[k];
        }

        boolean isWithin(int k, int low, int high) {
            int value = number(k);
            return value >= low && value <= high;
        }

        boolean isOneWithin(int low, int high) {
            return many == 1 && isWithin(0, low, high);
        }

        /** Whether the numbers are two bathers of those told ahead, unlike. */
        boolean isPairOf(int bathers) {
            return many == 2 && isWithin(0, 0, bathers - 1) && isWithin(1, 0, bathers - 1)
                && number(0) != number(1);
        }
    }

    /** A bather: what is told of it, from when it is there, and how the last evening went for it. */
    private static final class Bather {
        private final int bit;
        private int pints, coolest, hottest, stays, from, until;
        private int after, waterOf;
        private int comes;
        private int went, done, heat, drew;

        Bather(int number) {
            bit = 1 << number;
        }

        void become(Item item) {
            pints = item.number(0);
            coolest = item.number(1);
            hottest = item.number(2);
            stays = item.number(3);
            from = item.number(4);
            until = item.number(5);
            after = 0;
            waterOf = 0;
        }

        void becomeLike(Bather other) {
            pints = other.pints;
            coolest = other.coolest;
            hottest = other.hottest;
            stays = other.stays;
            from = other.from;
            until = other.until;
            after = other.after;
            waterOf = other.waterOf;
            comes = other.comes;
        }

        int toldOf(int what) {
            switch (what) {
                case 0: return pints;
                case 1: return coolest;
                case 2: return hottest;
                case 3: return stays;
                case 4: return from;
                case 5: return until;
                case 6: return after;
                default: return waterOf;
            }
        }

        void isNotInYet() {
            went = NONE;
            done = NONE;
            heat = NONE;
            drew = NONE;
        }
    }

    /** A house as a text tells it: its tank, fire, kettle and bathers. */
    private static final class House {
        private boolean tankTold;
        private int layers, pints, cold, first, loses;
        private final int[] stageGives = new int[LAST_STAGE + 1];
        private final int[] stageLasts = new int[LAST_STAGE + 1];
        private int fires;
        private int kettle, kettleSteps;
        private int cools;
        private int steps;
        private int count;
        private final Bather[] bathers = new Bather[MOST_BATHERS];

        House() {
            for (int i = 0; i < bathers.length; i++) {
                bathers[i] = new Bather(i);
            }
            clear();
        }

        /** As a new object's house is, which is as all is that a text leaves untold. */
        void clear() {
            tankTold = false;
            layers = 1;
            pints = 10;
            cold = 10;
            first = 10;
            loses = 0;
            for (int s = 0; s <= LAST_STAGE; s++) {
                stageGives[s] = 0;
                stageLasts[s] = 1;
            }
            fires = 0;
            kettle = 0;
            kettleSteps = 1;
            cools = 1;
            steps = 40;
            count = 0;
        }

        void becomeLike(House other) {
            layers = other.layers;
            pints = other.pints;
            cold = other.cold;
            first = other.first;
            loses = other.loses;
            System.arraycopy(other.stageGives, 0, stageGives, 0, stageGives.length);
            System.arraycopy(other.stageLasts, 0, stageLasts, 0, stageLasts.length);
            fires = other.fires;
            kettle = other.kettle;
            kettleSteps = other.kettleSteps;
            cools = other.cools;
            steps = other.steps;
            count = other.count;
            for (int i = 0; i < bathers.length; i++) {
                bathers[i].becomeLike(other.bathers[i]);
            }
        }

        void grow(int k) {
            if (k == 0) {
                layers++;
            } else if (k == 1) {
                loses /= 2;
            } else if (k == 2) {
                for (int s = 1; s <= LAST_STAGE; s++) {
                    stageGives[s] += stageGives[s] / 10;
                }
            } else {
                kettle = Math.min(kettle + 10, 30);
            }
        }

        /** Bather i, or null if there is none such. */
        Bather who(int i) {
            return i < 0 || i >= count || i >= bathers.length ? null : bathers[i];
        }

        void allComeAsTold() {
            for (Bather who : bathers) {
                who.comes = who.from;
            }
        }

        /** Takes an item, the next of a text, in; false if it is not so. */
        boolean takes(Item item) {
            // the tank comes first of all, and once
            if (tankTold == (item.letter == 't')) {
                return false;
            }
            switch (item.letter) {
                case 't': return takesTank(item);
                case 'f': return takesStage(item);
                case 'b': return takesBather(item);
                case 'a':
                case 's': return takesPair(item);
                case 'k': return takesKettle(item);
                default: return takesNumber(item);
            }
        }

        private boolean takesTank(Item item) {
            if (item.many != 5 || !item.isWithin(0, 1, MOST_LAYERS) || !item.isWithin(1, 1, 60)
                || !item.isWithin(2, 0, 40) || !item.isWithin(3, item.number(2), 95)
                || !item.isWithin(4, 0, 999)) {
                return false;
            }
            layers = item.number(0);
            pints = item.number(1);
            cold = item.number(2);
            first = item.number(3);
            loses = item.number(4);
            tankTold = true;
            return true;
        }

        private boolean takesStage(Item item) {
            if (item.many != 3 || !item.isWithin(0, 1, LAST_STAGE) || !item.isWithin(1, 0, 9999)
                || !item.isWithin(2, 1, 30)) {
                return false;
            }
            stageGives[item.number(0)] = item.number(1);
            stageLasts[item.number(0)] = item.number(2);
            return true;
        }

        private boolean takesBather(Item item) {
            if (count >= bathers.length || item.many != 6 || !item.isWithin(0, 1, 99)
                || !item.isWithin(1, 0, 99) || !item.isWithin(2, item.number(1), 99)
                || !item.isWithin(3, 1, 20) || !item.isWithin(4, 0, 60)
                || !item.isWithin(5, 0, 99)) {
                return false;
            }
            bathers[count].become(item);
            count++;
            return true;
        }

        private boolean takesPair(Item item) {
            Bather one = who(item.number(0));
            Bather other = who(item.number(1));
            if (!item.isPairOf(count) || one == null || other == null) {
                return false;
            }
            if (item.letter == 'a') {
                one.after |= other.bit;
            } else {
                one.waterOf |= other.bit;
            }
            return true;
        }

        private boolean takesKettle(Item item) {
            if (item.many != 2 || !item.isWithin(0, 0, 20) || !item.isWithin(1, 1, 30)) {
                return false;
            }
            kettle = item.number(0);
            kettleSteps = item.number(1);
            return true;
        }

        /** Takes one of the items of a single number. */
        private boolean takesNumber(Item item) {
            int value = item.number(0);
            if (item.letter == 'c' && item.isOneWithin(0, 9)) {
                fires = value;
            } else if (item.letter == 'q' && item.isOneWithin(0, 9)) {
                cools = value;
            } else if (item.letter == 'n' && item.isOneWithin(1, MOST_STEPS)) {
                steps = value;
            } else {
                return false;
            }
            return true;
        }

        /** The SCORE of the evening that was. */
        int scoreOfEvening() {
            int late = 0;
            int allDone = 0;
            for (int i = 0; i < count && i < bathers.length; i++) {
                int done = bathers[i].done;
                if (done == NONE || done > bathers[i].until) {
                    late++;
                }
                allDone = Math.max(allDone, done == NONE ? NEVER : done);
            }
            return 100 * late + allDone;
        }
    }

    /** What can be kept: the row, how hot it must be, the plan (a bit a step), the tenths. */
    private static final class Wishes {
        private final int[] row = new int[MOST_BATHERS];
        private int hot;
        private long plan;
        private final int[] tenths = new int[MOST_DELAY + 1];

        Wishes() {
            clear();
        }

        void clear() {
            for (int k = 0; k < row.length; k++) {
                row[k] = k;
            }
            hot = 50;
            plan = 0L;
            for (int d = 0; d < tenths.length; d++) {
                tenths[d] = d == 0 ? TENTHS : 0;
            }
        }

        void becomeLike(Wishes other) {
            System.arraycopy(other.row, 0, row, 0, row.length);
            hot = other.hot;
            plan = other.plan;
            System.arraycopy(other.tenths, 0, tenths, 0, tenths.length);
        }

        int sumOfTenths() {
            int sum = 0;
            for (int v : tenths) {
                sum += v;
            }
            return sum;
        }
    }

    /** By what an evening is asked for: the wishes, or others that are tried. */
    private static final class Asked {
        private int rule, hot, fires;
        private long plan;
        private final int[] row = new int[MOST_BATHERS];
        private int tapFrom, tapSteps, tapPints;

        void become(int newRule, Wishes wishes, int newFires) {
            rule = newRule;
            hot = wishes.hot;
            fires = newFires;
            plan = wishes.plan;
            System.arraycopy(wishes.row, 0, row, 0, row.length);
            tapFrom = 0;
            tapSteps = 0;
            tapPints = 0;
        }

        void copyRowTo(int[] other) {
            System.arraycopy(row, 0, other, 0, Math.min(row.length, other.length));
        }

        void rowByNumbers() {
            for (int k = 0; k < row.length; k++) {
                row[k] = k;
            }
        }

        void changePlaces(int a, int b) {
            if (a < 0 || a >= row.length || b < 0 || b >= row.length) {
                return;
            }
            int there = row[a];
            row[a] = row[b];
            row[b] = there;
        }

        /** The next row by numbers of the first n places; false if this is the last one. */
        boolean nextRow(int n) {
            int end = Math.min(n, row.length) - 1;
            int k = end - 1;
            while (k >= 0 && row[k] > row[k + 1]) {
                k--;
            }
            if (k < 0) {
                return false;
            }
            int higher = end;
            while (higher > k + 1 && row[higher] < row[k]) {
                higher--;
            }
            changePlaces(k, higher);
            // what lies behind falls all along: turned round it is the lowest of its rows
            for (int a = k + 1, b = end; a < b; a++, b--) {
                changePlaces(a, b);
            }
            return true;
        }

        int placeInRow(int k) {
            return k < 0 || k >= row.length ? NONE : row[k];
        }

        boolean plansFor(int step) {
            return (plan >> step & 1L) != 0;
        }

        boolean tapsAt(int step) {
            return step >= tapFrom && step < tapFrom + tapSteps;
        }

        /** Whether the rule, one of those at the door, lets one bather go before another. */
        boolean prefers(Bather one, Bather other) {
            return rule == SMALL ? one.pints < other.pints : one.comes < other.comes;
        }
    }

    /** The tank: the units of its layers, the top one first. */
    private static final class Tank {
        private final int[] units = new int[MOST_LAYERS];
        private int layers;
        private int pints = 1;
        private int cold;

        /** As it is at first in a house. */
        void fill(House house) {
            layers = Math.min(house.layers, units.length);
            pints = Math.max(house.pints, 1);
            cold = house.cold;
            for (int k = 0; k < layers; k++) {
                units[k] = house.first * pints;
            }
        }

        int holds() {
            return layers * pints;
        }

        int unitsIn(int layer) {
            return layer < 0 || layer >= layers ? 0 : units[layer];
        }

        int heatOf(int layer) {
            return unitsIn(layer) / pints;
        }

        /** Units of so many pints of a layer; what lies below the last one is cold water. */
        private int unitsOfPart(int layer, int part) {
            return layer < 0 || layer >= layers ? cold * part : units[layer] * part / pints;
        }

        /** Units of the top h pints, no more than the tank holds. */
        int unitsOfTop(int h) {
            int whole = h / pints;
            int sum = 0;
            for (int k = 0; k < whole && k < layers; k++) {
                sum += units[k];
            }
            return whole < 0 || whole >= layers ? sum : sum + units[whole] * (h % pints) / pints;
        }

        void draw(int h) {
            int whole = h / pints;
            int part = h % pints;
            // a layer takes from itself and those below alone: what is above may be new already
            for (int j = 0; j < layers; j++) {
                units[j] = unitsOfPart(j + whole, pints - part) + unitsOfPart(j + whole + 1, part);
            }
        }

        /**
         * The fewest pints from the top, most of them at most, that have so many units more than as
         * much cold water; NONE if there are not so many.
         */
        int pintsFor(int more, int most) {
            if (more <= 0) {
                return 0;
            }
            int missing = more;
            for (int k = 0; k < layers && k * pints < most; k++) {
                int warmer = units[k] - cold * pints;
                // what is missing are whole units, so that the cut of a part's units does not move
                // the pint that brings them; and a layer no warmer than cold water brings none
                if (warmer > 0) {
                    int part = (missing * pints + warmer - 1) / warmer;
                    if (part <= pints && k * pints + part <= most) {
                        return k * pints + part;
                    }
                }
                missing -= warmer;
            }
            return NONE;
        }

        void warm(int fireUnits) {
            if (layers < 1 || layers > units.length) {
                return;
            }
            units[layers - 1] += fireUnits;
            for (int k = layers - 1; k > 0; k--) {
                if (units[k] > units[k - 1]) {
                    int both = units[k] + units[k - 1];
                    units[k] = both / 2;
                    units[k - 1] = both - both / 2;
                }
            }
        }

        void lose(int loss) {
            int asCold = cold * pints;
            for (int k = 0; k < layers; k++) {
                if (units[k] > asCold) {
                    units[k] = Math.max(units[k] - loss, asCold);
                }
            }
        }
    }

    /** The fire: its stage, since when, and how often it can still be made up. */
    private static final class Fire {
        private int stage, age, times;

        void begin(int fires) {
            stage = 0;
            age = 0;
            times = fires;
        }

        void makeUp() {
            if (times > 0) {
                times--;
                stage = LAST_STAGE;
                age = 0;
            }
        }

        int gives(House house) {
            return stage < 1 || stage > LAST_STAGE ? 0 : house.stageGives[stage];
        }

        void getOlder(House house) {
            if (stage < 1 || stage > LAST_STAGE) {
                return;
            }
            age++;
            if (age >= house.stageLasts[stage]) {
                stage--;
                age = 0;
            }
        }
    }

    /** A bath as one bather would have it. */
    private static final class Bath {
        private int pints, heat, kettle;
        private boolean usedWater;

        /** Whether the water that is in the tub is such that the bather may use it. */
        boolean isLeftBy(Bather last, Bather who, int cools) {
            pints = 0;
            kettle = 0;
            usedWater = true;
            heat = last.heat - cools * last.stays;
            return (who.waterOf & last.bit) != 0 && heat >= who.coolest && heat <= who.hottest;
        }

        /** Whether it can be had from the tank and so many hot pints of a kettle. */
        boolean comesFrom(Tank tank, Bather who, int hotPints) {
            int all = who.pints;
            if (all < 1) {
                return false;
            }
            usedWater = false;
            kettle = hotPints <= all ? hotPints : 0;
            int nothingDrawn = 100 * kettle + tank.cold * (all - kettle);
            pints = tank.pintsFor(who.coolest * all - nothingDrawn, all - kettle);
            if (pints == NONE) {
                return false;
            }
            heat = (nothingDrawn + tank.unitsOfTop(pints) - tank.cold * pints) / all;
            return heat <= who.hottest;
        }
    }

    /** An evening step by step; for each bather it is told in the bather how it went. */
    private static final class Evening {
        private final Tank tank = new Tank();
        private final Fire fire = new Fire();
        private final Bath bath = new Bath();
        private int kettleAge;
        private Bather last;
        private int freeFrom;
        private int wereIn;
        private int nextOfRow;

        /** Runs all the steps: the SCORE. */
        int run(House house, Asked asked) {
            begin(house, asked.fires);
            for (int t = 0; t < house.steps; t++) {
                if (asked.plansFor(t)) {
                    fire.makeUp();
                }
                Bather who = t < freeFrom ? null : chosen(house, asked, t);
                if (who != null) {
                    goesIn(house, who, t);
                }
                if (asked.tapsAt(t)) {
                    tank.draw(Math.min(asked.tapPints, tank.holds()));
                }
                tank.warm(fire.gives(house));
                tank.lose(house.loses);
                fire.getOlder(house);
                kettleAge++;
            }
            return house.scoreOfEvening();
        }

        private void begin(House house, int fires) {
            tank.fill(house);
            fire.begin(fires);
            kettleAge = 0;
            last = null;
            freeFrom = 0;
            wereIn = 0;
            nextOfRow = 0;
            for (Bather who : house.bathers) {
                who.isNotInYet();
            }
        }

        /** Who goes in by the rule, the tub being free; null if nobody does. */
        private Bather chosen(House house, Asked asked, int t) {
            if (asked.rule == ROW) {
                Bather next = house.who(asked.placeInRow(nextOfRow));
                return next != null && can(house, next, t) ? next : null;
            }
            boolean hot = asked.rule != HOT || tank.heatOf(0) >= asked.hot;
            Bather first = null;
            for (int i = 0; i < house.count; i++) {
                Bather who = house.who(i);
                if (who != null && (first == null || asked.prefers(who, first))
                    && can(house, who, t) && (hot || bath.usedWater)) {
                    first = who;
                }
            }
            return first;
        }

        /** Whether a bather can go in now, the tub being free; the bath is its bath then. */
        private boolean can(House house, Bather who, int t) {
            // the tub is free, so that all who were in are done
            if (who.comes > t || (wereIn & who.bit) != 0 || (who.after & ~wereIn) != 0) {
                return false;
            }
            if (last != null && last.done == t && bath.isLeftBy(last, who, house.cools)) {
                return true;
            }
            return bath.comesFrom(tank, who, kettleAge >= house.kettleSteps ? house.kettle : 0);
        }

        private void goesIn(House house, Bather who, int t) {
            // others may have been asked since it was: the bath is to be its own again
            if (!can(house, who, t)) {
                return;
            }
            tank.draw(bath.pints);
            if (bath.kettle > 0) {
                kettleAge = 0;
            }
            who.went = t;
            who.done = t + who.stays;
            who.heat = bath.heat;
            who.drew = bath.pints;
            last = who;
            freeFrom = who.done;
            wereIn |= who.bit;
            nextOfRow++;
        }
    }
}
