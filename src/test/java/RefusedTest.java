/**
 * "BAD: a number is none that is told. NO: not as things stand. NONE: there is none. FULL. Of several
 * the first in this order, whatever the order at a call; nothing changes then." Each refused call is
 * made in one of two objects that are alike; behind it they are alike still. So are they behind each
 * call that only asks.
 */
public final class RefusedTest {
    private static final int BAD = BathNight.BAD, NO = BathNight.NO, FULL = BathNight.FULL, NONE = BathNight.NONE;
    private static final String HOUSE = "t6,3,5,50,9;f3,80,2;f2,40,2;f1,20,2;c3;b5,30,40,2,0,6;b9,30,45,1,2,4;b4,90,99,3,1,9;a1,0;s1,0;q2;k2,3;n4;";

    /** A call to be tried. */
    private interface Call {
        int on(BathNight x);
    }

    /** How an object comes to be in which it is tried. */
    private interface Made {
        BathNight anew();
    }

    public static void main(String[] args) {
        Made[] states = {BathNight::new, RefusedTest::full, RefusedTest::faulty};
        for (Made state : states) {
            bad(state);
            asking(state);
        }
        notAsThingsStand();
        thereIsNone();
        thereIsNoRoom();
        orderOfAnswers();
        wishesAlone();
        Check.end();
    }

    /** Three bathers in a tank of six layers; all steps planned; tenths that are not ten; two KEPT. */
    private static BathNight full() {
        BathNight x = Check.laid(HOUSE);
        x.hot(11);
        x.plan(59, true);
        x.keep();
        x.row(0, 2);
        x.hot(22);
        x.tenths(4, 3);
        x.keep();
        x.row(1, 0);
        x.hot(33);
        for (int t = 0; t < 4; t++) {
            x.plan(t, true);
        }
        x.tenths(0, 1);
        return x;
    }

    /** A house that is laid, and a full text that has a fault. */
    private static BathNight faulty() {
        BathNight x = full();
        while (x.write(8, 0x7431_2c31_2c30_2c30L) > 0) {
            // until there is no room
        }
        while (x.write(1, 'x') > 0) {
            // until there is none at all
        }
        return x;
    }

    private static void same(String call, Made made, BathNight x) {
        Check.due(call + " changes nothing", State.of(x).equals(State.of(made.anew())) ? 1 : 0, 1);
    }

    private static void due(String name, Made made, int want, Call call) {
        BathNight x = made.anew();
        Check.due(name, call.on(x), want);
        same(name, made, x);
    }

    /** Each number of each call just outside of what is told, and far away. */
    private static void bad(Made made) {
        int bathers = made.anew().count(0);
        int layers = made.anew().count(1);
        outside("write", made, 1, 8, (x, n) -> x.write(n, 0x41424344L));
        outside("bather i", made, 0, bathers - 1, (x, n) -> x.bather(n, 0));
        outside("bather what", made, 0, 7, (x, n) -> x.bather(0, n));
        outside("drawn h", made, 0, made.anew().drawn(11, 0) == BAD ? 10 : 18, (x, n) -> x.drawn(n, 0));
        outside("drawn layer", made, -1, layers - 1, (x, n) -> x.drawn(0, n));
        outside("bath i", made, 0, bathers - 1, (x, n) -> x.bath(n, true, 0));
        outside("bath what", made, 0, 1, (x, n) -> x.bath(0, false, n));
        outside("row k", made, 0, bathers - 1, (x, n) -> x.row(n, 0));
        outside("row i", made, 0, bathers - 1, (x, n) -> x.row(0, n));
        outside("hot", made, 0, 99, (x, n) -> x.hot(n));
        outside("plan", made, 0, 59, (x, n) -> x.plan(n, true));
        outside("plan not", made, 0, 59, (x, n) -> x.plan(n, false));
        outside("evening rule", made, 0, 3, (x, n) -> x.evening(n, 0, 0));
        outside("evening i", made, 0, bathers - 1, (x, n) -> x.evening(1, n, 0));
        outside("evening what", made, 0, 3, (x, n) -> x.evening(1, 0, n));
        outside("score rule", made, 0, 3, (x, n) -> x.score(n, 0));
        outside("score what", made, 0, 2, (x, n) -> x.score(1, n));
        outside("left rule", made, 0, 3, (x, n) -> x.left(n, 0));
        outside("left what", made, 0, 7, (x, n) -> x.left(1, n));
        outside("best", made, -1, bathers - 1, (x, n) -> x.best(n));
        outside("when rule", made, 0, 3, (x, n) -> x.when(n, 0));
        outside("when what", made, 0, 1, (x, n) -> x.when(1, n));
        outside("fewest rule", made, 0, 3, (x, n) -> x.fewest(n, 0));
        outside("fewest what", made, 0, 2, (x, n) -> x.fewest(1, n));
        outside("bigger rule", made, 0, 3, (x, n) -> x.bigger(n, 0));
        outside("bigger k", made, 0, 3, (x, n) -> x.bigger(1, n));
        outside("tap rule", made, 0, 3, (x, n) -> x.tap(n, 0, 1, 1));
        outside("tap s", made, 0, 59, (x, n) -> x.tap(1, n, 1, 1));
        outside("tap n", made, 1, 60, (x, n) -> x.tap(1, 0, n, 1));
        outside("tap p", made, 1, 99, (x, n) -> x.tap(1, 0, 1, n));
        outside("tenths d", made, 0, 5, (x, n) -> x.tenths(n, 1));
        outside("tenths v", made, 0, 10, (x, n) -> x.tenths(1, n));
        outside("told rule", made, 0, 3, (x, n) -> x.told(n, 0, 0));
        outside("told i", made, 0, bathers - 1, (x, n) -> x.told(1, n, 0));
        outside("told what", made, 0, 1, (x, n) -> x.told(1, 0, n));
        outside("looks", made, 0, 6, (x, n) -> x.looks(n));
        outside("count", made, 0, 6, (x, n) -> x.count(n));
        if (bathers > 0) {
            due("looks(bathers)", made, BAD, x -> x.looks(bathers));
            due("looks(5)", made, BAD, x -> x.looks(5));
        } else {
            due("looks(0)", made, BAD, x -> x.looks(0));
            due("left(0, 1)", made, BAD, x -> x.left(0, 1));
            due("left(0, 5)", made, BAD, x -> x.left(0, 5));
        }
    }

    /** A call by one of its numbers. */
    private interface CallBy {
        int on(BathNight x, int n);
    }

    private static void outside(String name, Made made, int low, int high, CallBy call) {
        int[] numbers = {low - 1, high + 1, Integer.MIN_VALUE, Integer.MAX_VALUE, low - 64, high + 64, low - 100, high + 1000};
        for (int n : numbers) {
            due(name + " " + n, made, BAD, x -> call.on(x, n));
        }
    }

    /** What is asked, and answered whatever it is, changes nothing. */
    private static void asking(Made made) {
        Call[] calls = {x -> x.fault(), x -> x.bather(0, 1), x -> x.drawn(3, -1), x -> x.drawn(10, 0), x -> x.bath(0, true, 0),
            x -> x.bath(0, false, 1), x -> x.best(-1), x -> x.best(0), x -> x.looks(6), x -> x.looks(0), x -> x.looks(1),
            x -> x.looks(2), x -> x.count(0), x -> x.count(4), x -> x.count(5)};
        for (int k = 0; k < calls.length; k++) {
            BathNight x = made.anew();
            calls[k].on(x);
            same("asking " + k, made, x);
        }
        for (int rule = 0; rule < 4; rule++) {
            int by = rule;
            Call[] ruled = {x -> x.evening(by, 0, 0), x -> x.evening(by, 1, 2), x -> x.score(by, 2), x -> x.left(by, 0), x -> x.left(by, 7),
                x -> x.when(by, 0), x -> x.when(by, 1), x -> x.fewest(by, 0), x -> x.fewest(by, 2), x -> x.bigger(by, 0),
                x -> x.bigger(by, 1), x -> x.bigger(by, 2), x -> x.bigger(by, 3), x -> x.tap(by, 0, 60, 99), x -> x.tap(by, 3, 1, 2),
                x -> x.told(by, 1, 0), x -> x.told(by, 1, 1)};
            for (int k = 0; k < ruled.length; k++) {
                BathNight x = made.anew();
                ruled[k].on(x);
                same("asking by " + rule + ", " + k, made, x);
            }
        }
    }

    /** "NO": lay() of a FAULT, a bath that can't be had, a seventh layer, tenths that are not ten, nothing KEPT. */
    private static void notAsThingsStand() {
        due("lay() of an empty text", BathNight::new, NO, x -> x.lay());
        due("lay() of a fault", RefusedTest::faulty, NO, x -> x.lay());
        Made wiped = () -> {
            BathNight x = full();
            x.wipe();
            return x;
        };
        due("lay() of a wiped text", wiped, NO, x -> x.lay());
        due("bath(2, false, 0)", RefusedTest::full, NO, x -> x.bath(2, false, 0));
        due("bath(2, true, 1)", RefusedTest::full, NO, x -> x.bath(2, true, 1));
        for (int rule = 0; rule < 4; rule++) {
            int by = rule;
            due("bigger(" + by + ", 0) of six", RefusedTest::full, NO, x -> x.bigger(by, 0));
            due("told(" + by + ", 0, 0) of four tenths", RefusedTest::full, NO, x -> x.told(by, 0, 0));
            due("told(" + by + ", 2, 1) of four tenths", RefusedTest::full, NO, x -> x.told(by, 2, 1));
        }
        due("back() of a new object", BathNight::new, NO, x -> x.back());
        due("back() behind all", () -> Check.laid(HOUSE), NO, x -> x.back());
        Made spent = () -> {
            BathNight x = full();
            x.back();
            x.back();
            return x;
        };
        due("back() of all", spent, NO, x -> x.back());
    }

    /** "NONE": no fault, no step that is not planned, no such plan, no end of looking, no evening of one. */
    private static void thereIsNone() {
        due("fault() of no fault", RefusedTest::full, NONE, x -> x.fault());
        for (int rule = 0; rule < 4; rule++) {
            int by = rule;
            for (int what = 0; what < 2; what++) {
                int asked = what;
                due("when(" + by + ", " + what + ") of all planned", RefusedTest::full, NONE, x -> x.when(by, asked));
            }
            for (int what = 0; what < 3; what++) {
                int asked = what;
                due("fewest(" + by + ", " + what + ") of one who can't", RefusedTest::full, NONE, x -> x.fewest(by, asked));
            }
            for (int what = 0; what < 4; what++) {
                int asked = what;
                due("evening(" + by + ", 2, " + what + ") of one who can't", RefusedTest::full, NONE, x -> x.evening(by, 2, asked));
            }
        }
        Made endless = () -> {
            BathNight x = Check.laid("t1,10,0,50,8;b5,0,9,2,3,9;b4,7,11,2,2,9;n10;");
            x.hot(5);
            x.row(0, 1);
            x.keep();
            return x;
        };
        for (int what : new int[] {0, 1, 6}) {
            due("looks(" + what + ") without end", endless, NONE, x -> x.looks(what));
        }
    }

    /** "FULL": no room in THE TEXT for all that is written, two that are KEPT. */
    private static void thereIsNoRoom() {
        due("keep() of a third", RefusedTest::full, FULL, x -> x.keep());
        for (int length = 392; length <= 400; length++) {
            int bytes = length;
            Made made = () -> {
                BathNight x = full();
                while (x.count(3) < bytes) {
                    x.write(Math.min(8, bytes - x.count(3)), 0x3b3b3b3b3b3b3b3bL);
                }
                return x;
            };
            for (int n = 1; n <= 8; n++) {
                int many = n;
                if (length + n > 400) {
                    due("write(" + n + ") behind " + length, made, FULL, x -> x.write(many, -1L));
                } else {
                    Check.due("write(" + n + ") behind " + length, made.anew().write(n, -1L), length + n);
                }
            }
        }
    }

    /** BAD ahead of FULL, of NO, of NONE, whichever of the numbers it is. */
    private static void orderOfAnswers() {
        due("write(0) into a full text", RefusedTest::faulty, BAD, x -> x.write(0, 0));
        due("write(9) into a full text", RefusedTest::faulty, BAD, x -> x.write(9, 0));
        due("bath(2, true, 2)", RefusedTest::full, BAD, x -> x.bath(2, true, 2));
        due("bath(2, true, -1)", RefusedTest::full, BAD, x -> x.bath(2, true, -1));
        due("bigger(4, 0) of six", RefusedTest::full, BAD, x -> x.bigger(4, 0));
        due("bigger(-1, 0) of six", RefusedTest::full, BAD, x -> x.bigger(-1, 0));
        due("told(4, 0, 0)", RefusedTest::full, BAD, x -> x.told(4, 0, 0));
        due("told(0, 3, 0)", RefusedTest::full, BAD, x -> x.told(0, 3, 0));
        due("told(0, 0, 2)", RefusedTest::full, BAD, x -> x.told(0, 0, 2));
        due("when(4, 0)", RefusedTest::full, BAD, x -> x.when(4, 0));
        due("when(0, 2)", RefusedTest::full, BAD, x -> x.when(0, 2));
        due("fewest(4, 0)", RefusedTest::full, BAD, x -> x.fewest(4, 0));
        due("fewest(0, 3)", RefusedTest::full, BAD, x -> x.fewest(0, 3));
        due("evening(4, 2, 0)", RefusedTest::full, BAD, x -> x.evening(4, 2, 0));
        due("evening(0, 2, 4)", RefusedTest::full, BAD, x -> x.evening(0, 2, 4));
    }

    /** What is put back to what it was is as if it had never been else; nothing else is touched. */
    private static void wishesAlone() {
        for (Made made : new Made[] {RefusedTest::full, RefusedTest::faulty}) {
            BathNight x = made.anew();
            int was = x.row(0, 1);
            x.row(0, was);
            same("row() and back", made, x);
            x = made.anew();
            x.hot(x.hot(77));
            same("hot() and back", made, x);
            x = made.anew();
            x.plan(30, true);
            x.plan(30, false);
            x.plan(59, false);
            x.plan(59, true);
            same("plan() and back", made, x);
            x = made.anew();
            x.tenths(3, x.tenths(3, 9));
            same("tenths() and back", made, x);
        }
        // keep() and back() are as if there had been neither
        Made one = () -> {
            BathNight x = full();
            x.back();
            return x;
        };
        BathNight x = one.anew();
        x.keep();
        x.hot(99);
        x.row(0, 1);
        x.plan(17, true);
        x.plan(59, false);
        x.tenths(5, 5);
        x.back();
        same("keep() and back()", one, x);
        // swapped() changes the ROW alone: the same by row()
        Made swapped = () -> {
            BathNight y = Check.laid("t1,60,10,50,0;b5,10,10,5,0,10;b5,10,10,2,0,2;");
            y.row(0, 1);
            return y;
        };
        x = Check.laid("t1,60,10,50,0;b5,10,10,5,0,10;b5,10,10,2,0,2;");
        Check.due("swapped()", x.swapped(), 1);
        same("swapped() but for the ROW", swapped, x);
    }
}
