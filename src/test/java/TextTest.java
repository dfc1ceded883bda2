/** Promises 1 to 6: a new object, THE TEXT, FAULT, LAID, what is told of a BATHER. */
public final class TextTest {
    private static final String TANK = "t2,10,10,60,5;";
    private static final String TWO = TANK + "b20,30,40,3,0,20;b10,35,45,2,5,30;";

    public static void main(String[] args) {
        newObject();
        write();
        wipe();
        faultsOfForm();
        faultsOfNumbers();
        faultsOfOrder();
        lay();
        lastOneCounts();
        bather();
        Check.end();
    }

    private static void newObject() {
        BathNight x = new BathNight();
        int[] counts = {0, 1, 40, 0, 0, 0, 0, BathNight.BAD};
        for (int what = 0; what < counts.length; what++) {
            Check.due("new: count(" + what + ")", x.count(what), counts[what]);
        }
        Check.due("new: fault()", x.fault(), 0);
        Check.due("new: lay()", x.lay(), BathNight.NO);
        Check.due("new: wipe()", x.wipe(), 0);
        Check.due("new: drawn(10, -1)", x.drawn(10, -1), 100);
        Check.due("new: hot(50)", x.hot(50), 50);
        Check.due("new: tenths(0, 10)", x.tenths(0, 10), 10);
        Check.due("new: tenths(1, 0)", x.tenths(1, 0), 0);
        Check.due("new: back()", x.back(), BathNight.NO);
        Check.due("new: score(0, 2)", x.score(0, 2), 0);
    }

    private static void write() {
        BathNight x = new BathNight();
        Check.due("write(0, 1)", x.write(0, 1), BathNight.BAD);
        Check.due("write(9, 1)", x.write(9, 1), BathNight.BAD);
        Check.due("write(-1, 1)", x.write(-1, 1), BathNight.BAD);
        // the highest of the lowest bytes comes first; those above are left out
        Check.due("write(2, ..tn)", x.write(2, 0x7f7f7f7f_00007431L), 2);
        Check.due("write(8, ..)", x.write(8, 0x2c31302c352c3630L), 10);
        Check.due("write(3, ..)", x.write(3, 0x2c303bL), 13);
        Check.due("fault() of t1,10,5,60,0;", x.fault(), BathNight.NONE);
        Check.due("lay()", x.lay(), 0);
        Check.due("drawn(10, -1)", x.drawn(10, -1), 600);
        for (int k = 0; k < 48; k++) {
            x.write(8, 0);
        }
        Check.due("count(3)", x.count(3), 397);
        Check.due("write(4, 0) at 397", x.write(4, 0), BathNight.FULL);
        Check.due("write(9, 0) at 397", x.write(9, 0), BathNight.BAD);
        Check.due("count(3)", x.count(3), 397);
        Check.due("write(3, 0) at 397", x.write(3, 0), 400);
        Check.due("write(1, 0) at 400", x.write(1, 0), BathNight.FULL);
        Check.due("write(0, 0) at 400", x.write(0, 0), BathNight.BAD);
        Check.due("wipe()", x.wipe(), 400);
    }

    private static void wipe() {
        BathNight x = new BathNight();
        Check.tell(x, TANK);
        Check.due("wipe()", x.wipe(), TANK.length());
        Check.due("wipe() again", x.wipe(), 0);
        Check.due("fault()", x.fault(), 0);
        Check.due("count(3)", x.count(3), 0);
    }

    private static void fault(String text, int want) {
        BathNight x = new BathNight();
        Check.tell(x, text);
        Check.due("fault() of " + text, x.fault(), want);
        Check.due("lay() of " + text, x.lay() == BathNight.NO ? 1 : 0, want == BathNight.NONE ? 0 : 1);
    }

    private static void bad(String item) {
        fault(TWO + item, TWO.length());
        fault(TWO + "n5;" + item + "c1;", TWO.length() + 3);
    }

    private static void good(String item) {
        fault(TWO + item, BathNight.NONE);
    }

    private static void faultsOfForm() {
        String[] items = {"n5", "n5,", "n", "n;", "n5,;", "n,5;", "n5,5;", ";", ",", "N5;", "n 5;", "n-5;", "n00005;",
            "n5;;", "x5;", "5;", "n5.", "c;", "q1,1;", "k1;", "k1,1,1;", "a0;", "a0,1,1;", "s1;", "f1,1;", "f1,1,1,1;",
            "b1,1,1,1,1;", "b1,1,1,1,1,1,1;", "b1,1,1,1,1,1,1,1;", "n5\u00b2;", "n\u00005;", "n5:", "n5/1;"};
        for (String item : items) {
            if (item.equals("n5;;")) {
                fault(TWO + item, TWO.length() + 3);
            } else {
                bad(item);
            }
        }
        good("n0005;");
        good("n5;");
        fault("t2,10,10,60,5", 0);
        fault("t2,10,10,60;", 0);
        fault("t2,10,10,60,5,1;", 0);
        fault("t0002,0010,0010,0060,0005;", BathNight.NONE);
    }

    private static void faultsOfNumbers() {
        String[] tanks = {"t0,10,10,60,5;", "t7,10,10,60,5;", "t2,0,10,60,5;", "t2,61,10,60,5;", "t2,10,41,60,5;",
            "t2,10,10,96,5;", "t2,10,10,9,5;", "t2,10,10,60,1000;"};
        for (String tank : tanks) {
            fault(tank, 0);
        }
        String[] fine = {"t1,1,0,0,0;", "t6,60,40,95,999;", "t6,60,40,40,999;"};
        for (String tank : fine) {
            fault(tank, BathNight.NONE);
        }
        String[] wrong = {"f0,1,1;", "f4,1,1;", "f1,1,0;", "f1,1,31;", "c10;", "q10;", "k21,1;", "k1,0;", "k1,31;", "n0;",
            "n61;", "b0,1,1,1,1,1;", "b100,1,1,1,1,1;", "b1,2,1,1,1,1;", "b1,1,100,1,1,1;", "b1,1,1,0,1,1;",
            "b1,1,1,21,1,1;", "b1,1,1,1,61,1;", "b1,1,1,1,1,100;", "a0,2;", "a2,0;", "a0,0;", "s0,2;", "s2,0;", "s1,1;"};
        for (String item : wrong) {
            bad(item);
        }
        String[] right = {"f1,0,1;", "f3,9999,30;", "c0;", "c9;", "q0;", "q9;", "k0,1;", "k20,30;", "n1;", "n60;",
            "b1,0,0,1,0,0;", "b99,99,99,20,60,99;", "a0,1;", "a1,0;", "a0,1;a0,1;", "s0,1;", "s1,0;s0,1;"};
        for (String item : right) {
            good(item);
        }
    }

    private static void faultsOfOrder() {
        fault("", 0);
        fault("n5;" + TANK, 0);
        fault("b1,1,1,1,1,1;" + TANK, 0);
        fault(TANK + TANK, TANK.length());
        fault(TANK + "n5;" + TANK, TANK.length() + 3);
        fault(TANK + "a0,1;", TANK.length());
        String five = TWO + "b1,1,1,1,1,1;b1,1,1,1,1,1;b1,1,1,1,1,1;";
        String six = five + "b1,1,1,1,1,1;";
        fault(six + "a5,4;s4,5;", BathNight.NONE);
        fault(six + "b1,1,1,1,1,1;", six.length());
        fault(five + "a5,4;b1,1,1,1,1,1;", five.length());
        // of two faults the first one
        fault(TWO + "n0;c10;", TWO.length());
    }

    private static void lay() {
        BathNight x = Check.laid(TWO + "n30;c4;");
        x.row(0, 1);
        x.hot(7);
        x.plan(3, true);
        x.tenths(0, 2);
        x.keep();
        Check.tell(x, TWO + "n30;c4;x");
        Check.due("lay() with a fault", x.lay(), BathNight.NO);
        Check.due("hot(7) after NO", x.hot(7), 7);
        Check.due("count(4) after NO", x.count(4), 1);
        Check.due("count(5) after NO", x.count(5), 1);
        Check.due("count(2) after NO", x.count(2), 30);
        Check.due("row(0, 1) after NO", x.row(0, 1), 1);
        Check.tell(x, TANK);
        Check.due("count(0) before lay()", x.count(0), 2);
        Check.due("lay() of a tank", x.lay(), 0);
        Check.due("count(3): the text stays", x.count(3), TANK.length());
        Check.due("count(2)", x.count(2), 40);
        Check.due("count(6)", x.count(6), 0);
        Check.tell(x, TWO);
        Check.due("lay() of two", x.lay(), 2);
        Check.due("hot(50) after lay()", x.hot(50), 50);
        Check.due("count(4) after lay()", x.count(4), 0);
        Check.due("count(5) after lay()", x.count(5), 0);
        Check.due("tenths(0, 10) after lay()", x.tenths(0, 10), 10);
        Check.due("row(0, 0) after lay()", x.row(0, 0), 0);
    }

    private static void lastOneCounts() {
        BathNight x = Check.laid(TWO + "c3;n20;c5;n25;");
        Check.due("count(6)", x.count(6), 5);
        Check.due("count(2)", x.count(2), 25);
        x = Check.laid("t1,10,10,10,0;c1;n1;f3,900,1;f3,100,1;");
        x.plan(0, true);
        Check.due("left(0, 0): the last one of a stage", x.left(0, 0), 20);
        x = Check.laid("t1,10,0,0,0;b10,50,50,1,0,9;k20,1;k5,1;");
        Check.due("bath(0, true, 1): the last kettle", x.bath(0, true, 1), 50);
        // 50 degrees, 2 steps: a loss of 6, not of 2 or 18, lets the next one use the water
        x = Check.laid("t1,10,0,50,0;b10,50,50,2,0,9;b10,44,44,1,0,9;s1,0;q9;q3;");
        Check.due("evening(0, 1, 2): the last loss of the tub", x.evening(0, 1, 2), 44);
    }

    private static void bather() {
        BathNight x = Check.laid(TWO + "b99,0,99,20,60,99;a1,0;a2,0;a2,1;s0,2;s0,1;a2,1;");
        int[][] want = {{20, 30, 40, 3, 0, 20, 0, 6}, {10, 35, 45, 2, 5, 30, 1, 0}, {99, 0, 99, 20, 60, 99, 3, 0}};
        for (int i = 0; i < 3; i++) {
            for (int what = 0; what < 8; what++) {
                Check.due("bather(" + i + ", " + what + ")", x.bather(i, what), want[i][what]);
            }
        }
        Check.due("bather(3, 0)", x.bather(3, 0), BathNight.BAD);
        Check.due("bather(-1, 0)", x.bather(-1, 0), BathNight.BAD);
        Check.due("bather(0, 8)", x.bather(0, 8), BathNight.BAD);
        Check.due("bather(0, -1)", x.bather(0, -1), BathNight.BAD);
        // what was told of an earlier house is told no more
        Check.tell(x, TWO);
        x.lay();
        Check.due("bather(1, 6) of a new house", x.bather(1, 6), 0);
        Check.due("bather(0, 7) of a new house", x.bather(0, 7), 0);
    }
}
