/** Promises 9 to 11 and 24 to 26: ROW, X, PLAN, what is KEPT, and how many there are of things. */
public final class WishesTest {
    private static final String THREE = "t2,10,10,60,0;b5,10,10,1,0,9;b5,10,10,1,0,9;b5,10,10,1,0,9;c4;n30;";

    public static void main(String[] args) {
        row();
        hot();
        plan();
        keep();
        counts();
        Check.end();
    }

    private static void isRow(BathNight x, int a, int b, int c) {
        Check.due("row(0, " + a + ")", x.row(0, a), a);
        Check.due("row(1, " + b + ")", x.row(1, b), b);
        Check.due("row(2, " + c + ")", x.row(2, c), c);
    }

    private static void row() {
        BathNight x = Check.laid(THREE);
        isRow(x, 0, 1, 2);
        Check.due("row(0, 2)", x.row(0, 2), 0);
        isRow(x, 2, 1, 0);
        Check.due("row(1, 0)", x.row(1, 0), 1);
        isRow(x, 2, 0, 1);
        int[][] bad = {{-1, 0}, {3, 0}, {0, -1}, {0, 3}, {6, 6}};
        for (int[] one : bad) {
            Check.due("row(" + one[0] + ", " + one[1] + ")", x.row(one[0], one[1]), BathNight.BAD);
        }
        isRow(x, 2, 0, 1);
        Check.due("row(0, 0) without bathers", new BathNight().row(0, 0), BathNight.BAD);
    }

    private static void hot() {
        BathNight x = Check.laid(THREE);
        Check.due("hot(0)", x.hot(0), 50);
        Check.due("hot(99)", x.hot(99), 0);
        Check.due("hot(100)", x.hot(100), BathNight.BAD);
        Check.due("hot(-1)", x.hot(-1), BathNight.BAD);
        Check.due("hot(50)", x.hot(50), 99);
    }

    private static void plan() {
        BathNight x = Check.laid(THREE);
        Check.due("plan(59, true)", x.plan(59, true), 0);
        Check.due("plan(59, true)", x.plan(59, true), 1);
        Check.due("plan(0, false)", x.plan(0, false), 0);
        Check.due("plan(31, true)", x.plan(31, true), 0);
        Check.due("count(4)", x.count(4), 2);
        Check.due("plan(59, false)", x.plan(59, false), 1);
        Check.due("plan(59, false)", x.plan(59, false), 0);
        Check.due("plan(60, true)", x.plan(60, true), BathNight.BAD);
        Check.due("plan(-1, true)", x.plan(-1, true), BathNight.BAD);
        Check.due("plan(64, false)", x.plan(64, false), BathNight.BAD);
        Check.due("plan(31, true)", x.plan(31, true), 1);
        Check.due("count(4)", x.count(4), 1);
    }

    private static void keep() {
        BathNight x = Check.laid(THREE);
        Check.due("back() of nothing", x.back(), BathNight.NO);
        x.row(0, 1);
        x.hot(11);
        x.plan(1, true);
        x.tenths(0, 1);
        Check.due("keep()", x.keep(), 1);
        x.row(0, 2);
        x.hot(22);
        x.plan(2, true);
        x.tenths(5, 2);
        Check.due("keep()", x.keep(), 2);
        x.row(0, 0);
        x.hot(33);
        x.plan(1, false);
        x.tenths(0, 3);
        Check.due("keep() of a third", x.keep(), BathNight.FULL);
        Check.due("count(5)", x.count(5), 2);
        Check.due("hot(33)", x.hot(33), 33);
        Check.due("back()", x.back(), 1);
        Check.due("hot(22)", x.hot(22), 22);
        Check.due("count(4)", x.count(4), 2);
        Check.due("tenths(0, 1)", x.tenths(0, 1), 1);
        Check.due("tenths(5, 2)", x.tenths(5, 2), 2);
        isRow(x, 2, 0, 1);
        // what is done now does not touch what is kept
        x.plan(40, true);
        Check.due("back()", x.back(), 0);
        Check.due("hot(11)", x.hot(11), 11);
        Check.due("plan(1, true)", x.plan(1, true), 1);
        Check.due("count(4)", x.count(4), 1);
        Check.due("tenths(0, 1)", x.tenths(0, 1), 1);
        Check.due("tenths(5, 0)", x.tenths(5, 0), 0);
        isRow(x, 1, 0, 2);
        Check.due("back()", x.back(), BathNight.NO);
        Check.due("hot(11) after NO", x.hot(11), 11);
        Check.due("keep()", x.keep(), 1);
    }

    private static void counts() {
        BathNight x = Check.laid(THREE);
        x.plan(3, true);
        x.keep();
        int[] due = {3, 2, 30, THREE.length(), 1, 1, 4};
        for (int what = 0; what < due.length; what++) {
            Check.due("count(" + what + ")", x.count(what), due[what]);
        }
        Check.due("count(7)", x.count(7), BathNight.BAD);
        Check.due("count(-1)", x.count(-1), BathNight.BAD);
        // fires that are made up of an evening are there for the next one
        x.score(0, 2);
        Check.due("count(6)", x.count(6), 4);
    }
}
