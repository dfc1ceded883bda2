/** All calls with numbers of every kind, near the edges and far away: BAD, and nothing changes. */
public final class WrongTest {
    private static final int[] NUMBERS = {Integer.MIN_VALUE, -100, -5, -4, -3, -2, -1, 0, 1, 2, 3, 4, 5, 6, 7, 8, 10, 11, 30,
        59, 60, 61, 63, 64, 99, 100, 361, 999, 1000, Integer.MAX_VALUE - 1, Integer.MAX_VALUE};
    private static final String HOUSE = "t6,60,40,95,999;f3,9999,30;c9;b99,40,99,20,60,99;b1,0,99,1,0,0;a0,1;s0,1;k20,1;n60;";

    public static void main(String[] args) {
        for (int n : NUMBERS) {
            everyCall(n, new BathNight(), 0, 1, 40);
            everyCall(n, Check.laid(HOUSE), 2, 6, 60);
            everyCall(n, Check.laid("t1,1,0,0,0;b1,0,0,1,0,0;n1;"), 1, 1, 1);
        }
        thingsOfEveryKind();
        nothingChanges();
        Check.end();
    }

    private static void bad(String call, int got, boolean good) {
        Check.due(call + " is BAD", got == BathNight.BAD ? 1 : 0, good ? 0 : 1);
    }

    private static boolean in(int n, int low, int high) {
        return n >= low && n <= high;
    }

    private static void everyCall(int n, BathNight x, int bathers, int layers, int steps) {
        boolean any = bathers > 0;
        bad("write(" + n + ")", x.write(n, n), in(n, 1, 8));
        x.wipe();
        bad("bather(n, 0) " + n, x.bather(n, 0), in(n, 0, bathers - 1));
        bad("bather(0, n) " + n, x.bather(0, n), any && in(n, 0, 7));
        bad("drawn(0, n) " + n, x.drawn(0, n), in(n, -1, layers - 1));
        bad("drawn(n, 0) " + n, x.drawn(n, 0), in(n, 0, x.drawn(11, 0) == BathNight.BAD ? layers == 1 && bathers == 1 ? 1 : 10 : 360));
        bad("bath(n, true, 0) " + n, x.bath(n, true, 0), in(n, 0, bathers - 1));
        bad("bath(0, true, n) " + n, x.bath(0, true, n), any && in(n, 0, 1));
        bad("row(n, 0) " + n, x.row(n, 0), in(n, 0, bathers - 1));
        bad("row(0, n) " + n, x.row(0, n), any && in(n, 0, bathers - 1));
        bad("hot(n) " + n, x.hot(n), in(n, 0, 99));
        bad("plan(n, true) " + n, x.plan(n, true), in(n, 0, 59));
        bad("plan(n, false) " + n, x.plan(n, false), in(n, 0, 59));
        bad("evening(n, 0, 0) " + n, x.evening(n, 0, 0), any && in(n, 0, 3));
        bad("evening(0, n, 0) " + n, x.evening(0, n, 0), in(n, 0, bathers - 1));
        bad("evening(0, 0, n) " + n, x.evening(0, 0, n), any && in(n, 0, 3));
        bad("score(n, 0) " + n, x.score(n, 0), in(n, 0, 3));
        bad("score(0, n) " + n, x.score(0, n), in(n, 0, 2));
        bad("left(n, 0) " + n, x.left(n, 0), in(n, 0, 3));
        bad("left(0, n) " + n, x.left(0, n), in(n, 0, layers - 1) || in(n, 6, 7));
        bad("best(n) " + n, x.best(n), in(n, -1, bathers - 1));
        bad("when(n, 0) " + n, x.when(n, 0), in(n, 0, 3));
        bad("when(0, n) " + n, x.when(0, n), in(n, 0, 1));
        bad("fewest(n, 0) " + n, x.fewest(n, 0), in(n, 0, 3));
        bad("fewest(0, n) " + n, x.fewest(0, n), in(n, 0, 2));
        bad("bigger(n, 0) " + n, x.bigger(n, 0), in(n, 0, 3));
        bad("bigger(0, n) " + n, x.bigger(0, n), in(n, 0, 3));
        bad("tap(n, 0, 1, 1) " + n, x.tap(n, 0, 1, 1), in(n, 0, 3));
        bad("tap(0, n, 1, 1) " + n, x.tap(0, n, 1, 1), in(n, 0, 59));
        bad("tap(0, 0, n, 1) " + n, x.tap(0, 0, n, 1), in(n, 1, 60));
        bad("tap(0, 0, 1, n) " + n, x.tap(0, 0, 1, n), in(n, 1, 99));
        bad("tenths(n, 0) " + n, x.tenths(n, 0), in(n, 0, 5));
        bad("tenths(1, n) " + n, x.tenths(1, n), in(n, 0, 10));
        bad("told(n, 0, 0) " + n, x.told(n, 0, 0), any && in(n, 0, 3));
        bad("told(0, n, 0) " + n, x.told(0, n, 0), in(n, 0, bathers - 1));
        bad("told(0, 0, n) " + n, x.told(0, 0, n), any && in(n, 0, 1));
        bad("looks(n) " + n, x.looks(n), in(n, 0, bathers - 1) || n == 6);
        bad("count(n) " + n, x.count(n), in(n, 0, 6));
        Check.due("count(0)", x.count(0), bathers);
        Check.due("count(1)", x.count(1), layers);
        Check.due("count(2)", x.count(2), steps);
    }

    /** Texts of all bytes, broken at every place, in objects in every state: no call throws. */
    private static void thingsOfEveryKind() {
        for (int cut = 0; cut <= HOUSE.length(); cut++) {
            for (int sign = 0; sign < 256; sign += 51) {
                BathNight x = new BathNight();
                Check.tell(x, HOUSE.substring(0, cut) + (char) sign + HOUSE.substring(cut));
                int fault = x.fault();
                Check.due("lay() at " + cut, x.lay() == BathNight.NO ? 1 : 0, fault == BathNight.NONE ? 0 : 1);
                bad("score(3, 2)", x.score(3, 2), true);
            }
        }
        BathNight x = new BathNight();
        for (int k = 0; k < 60; k++) {
            x.write(8, 0x7431_2c31_2c30_2c30L);
            Check.due("fault()", x.fault(), 0);
        }
    }

    private static void nothingChanges() {
        BathNight x = Check.laid(HOUSE);
        x.plan(2, true);
        x.hot(42);
        x.row(0, 1);
        x.hot(100);
        x.row(0, 2);
        x.row(2, 0);
        x.plan(60, true);
        x.tenths(0, 11);
        x.tenths(6, 1);
        x.write(9, 0);
        x.left(0, 8);
        Check.due("hot(42)", x.hot(42), 42);
        Check.due("row(0, 1)", x.row(0, 1), 1);
        Check.due("count(4)", x.count(4), 1);
        Check.due("tenths(0, 10)", x.tenths(0, 10), 10);
        Check.due("count(3)", x.count(3), HOUSE.length());
    }
}
